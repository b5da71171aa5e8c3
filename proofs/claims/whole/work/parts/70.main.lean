/-! ===== told: any line, all lines ===== -/
theorem DR_pl {w k g p q m : Nat} {C D : zMM} {v v' v2 : Int32} (hd : DR w k g p q C D) (hm : m < 4) : DR w k g p q (z_up C 77 (4 * p + m) v) (z_up (z_up D 119 (16 + 4 * p + m) v') 120 (4 + p) v2) := by
  obtain ⟨hw, hk, hg, hp, hq, t1, t2, t3, t4, t5, t6⟩ := hd
  refine ⟨hw, hk, hg, hp, hq, t1, t2, t3, t4, ?_, t6⟩
  intro i hi
  obtain ⟨c', m', x1, x2, x3, x4, x5, x6, x7, x8, x9⟩ := t5 i hi
  refine ⟨c', m', x1, x2, x3, x4, x5, x6, x7, ?_, ?_⟩
  · rw [z_up_n (by omega), z_up_o (by decide)]; exact x8
  · intro j hj
    obtain ⟨s, y1, y2, y3⟩ := x9 j hj
    refine ⟨s, y1, ?_, ?_⟩
    · rw [z_up_n (by omega)]; exact y2
    · rw [z_up_o (by decide), z_up_n (by omega)]; exact y3
theorem DR_p0 {w k g p q : Nat} {C D : zMM} {v v2 : Int32} (hd : DR w k g p q C D) : DR w k g p q C (z_up (z_up D 118 (4 + p) v) 120 (4 + p) v2) := by
  obtain ⟨hw, hk, hg, hp, hq, t1, t2, t3, t4, t5, t6⟩ := hd
  refine ⟨hw, hk, hg, hp, hq, t1, t2, t3, t4, ?_, t6⟩
  intro i hi
  obtain ⟨c', m', x1, x2, x3, x4, x5, x6, x7, x8, x9⟩ := t5 i hi
  refine ⟨c', m', x1, x2, x3, x4, x5, ?_, x7, ?_, x9⟩
  · rw [z_up_o (by decide), z_up_n (by omega)]; exact x6
  · rw [z_up_n (by omega), z_up_o (by decide)]; exact x8
theorem N_p70 {K : Int32 → zMM → Option zMM} {x1 : Int32} {M : zMM} (h : ¬ M 107 24 = 0) : f_X8_readPlay_107_p70 K x1 M = some M := by
  unfold f_X8_readPlay_107_p70
  rw [N_bad_num h, z_bi_s, if_neg h]
theorem N_p40 {x1 : Int32} {fu : Nat} {M : zMM} (hf : 0 < fu) (h : ¬ M 107 24 = 0) : f_X8_readPlay_107_p40 fu x1 M = some M := by
  obtain ⟨fu, rfl⟩ : ∃ m, fu = m + 1 := ⟨fu - 1, by omega⟩
  unfold f_X8_readPlay_107_p40
  rw [if_neg h, N_p70 h]
theorem T_22 {u : Nat → Nat} {n w k g p q c : Nat} {x : Int32} (hp4 : p < 4) (hx : z_zb x = true) : ∀ l m, m + l = 4 → 0 < l → ∀ fu1 fu2 e b t r C D Mc Mm, l < fu1 → l < fu2 → GD u n e b t r C D Mc Mm → DR w k g p q C D → PLq p c m C D → (m = 0 ∨ t = 2) → Mc 79 8 = x → RSq u n e (f_X3_readPlay_79_p22 fu1 (nI c) (nI m) Mc) (z_bv (f_X8_readPlay_107_p40 fu2 (nI (4 + p)) Mm) fun M => f_X8_readLine_107_p187 x M) x := by
  intro l
  induction l with
  | zero => intro m _ h; exact absurd h (by decide)
  | succ l ih =>
    intro m hm _ fu1 fu2 e b t r C D Mc Mm h1 h2 h hd hpl hmt hfl
    obtain ⟨fu1, rfl⟩ : ∃ y, fu1 = y + 1 := ⟨fu1 - 1, by omega⟩
    obtain ⟨fu2, rfl⟩ : ∃ y, fu2 = y + 1 := ⟨fu2 - 1, by omega⟩
    obtain ⟨z0, z22, z4, z20, z3, hle⟩ := GD_0 h
    have hp := hd.2.2.2.1
    have eM : Mm 120 (4 + p) = nI m := (h.2.2.2.2 120 _ (by decide) (by decide)).trans hpl.2.2.2.1
    have eC : Mc 66 11 = nI p := (h.2.2.2.1 66 11 (by decide) (by decide)).trans hp.2.1
    have e40 : f_X8_readPlay_107_p40 (fu2 + 1) (nI (4 + p)) Mm = f_X8_readPlay_107_p70 (f_X8_readPlay_107_p40 fu2) (nI (4 + p)) Mm := by
      show (if (Mm 107 24) = 0 then _ else _) = _
      rw [if_pos z0]
      split
      · rw [if_pos (z_ib_n (by decide) (by omega)), nI_clamp (by omega), eM, if_neg (show ¬ nI m = (4 : Int32) from fun z => by have := (nI_eq (b := 4) (by omega) (by decide)).mp z; omega)]
      · rfl
    rw [e40]
    unfold f_X8_readPlay_107_p70 f_X3_readPlay_79_p22
    rw [eC, show nI p * (4 : Int32) = nI (p * 4) from nI_mul p 4, nI_add, show p * 4 + m = 4 * p + m by omega, nI_1]
    rcases G_num (lo := 0) (hi := 19) h (by decide) (by decide) with ⟨s, b2, t2, r2, Bc, Bm, s1, s2, s3, s4, s5⟩ | ⟨f, pp, Bc, Bm, s1, s2, s3⟩
    · have s3 : f_X3_takeNumber_79 (0 : Int32) (19 : Int32) Mc = some (nI s, Bc) := s3
      have s4 : f_X8_readNumber_107 (0 : Int32) (19 : Int32) Mm = some (nI s, Bm) := s4
      obtain ⟨y0, y22, y4, y20, y3, hle2⟩ := GD_0 s5
      have eB : Bm 120 (4 + p) = nI m := (s5.2.2.2.2 120 _ (by decide) (by decide)).trans hpl.2.2.2.1
      have eB8 : Bm 109 8 = nI p := (s5.2.2.2.2 109 8 (by decide) (by decide)).trans hp.2.2
      have fB : Bc 79 8 = x := (R_X3_takeNumber_79 s3 79 8 rfl).trans hfl
      have hz8 : z_ib (nI (4 + p)) 8 = true := z_ib_n (by decide) (by omega)
      have ei : (4 : Int32) * nI (4 + p) + nI m = nI (16 + 4 * p + m) := by
        rw [show (4 : Int32) * nI (4 + p) = nI (4 * (4 + p)) from nI_mul 4 _, nI_add, show 4 * (4 + p) + m = 16 + 4 * p + m by omega]
      rw [s3, z_bi_s, s4, z_bi_s, if_pos y0, hz8, if_pos rfl, if_pos rfl, if_pos rfl, nI_clamp (show 4 + p < 2 ^ 31 by omega), eB, ei, if_pos (z_ib_n (by decide) (by omega)), nI_clamp (show 16 + 4 * p + m < 2 ^ 31 by omega), y20, eB8, nI_1, nI_1, z_pt_nI (by decide) (by omega), z_bv_s, show z_up Bc 77 (4 * p + m) (nI s) 79 3 = nI t2 from y3]
      have g1 := GD_cu (a := 77) (i := 4 * p + m) (v := nI s) (GD_mu (a := 120) (i := 4 + p) (v := nI (m + 1)) (GD_mu (a := 119) (i := 16 + 4 * p + m) (v := nI s) s5 (by decide)) (by decide)) (by decide)
      have g2 : DR w k g p q (z_up C 77 (4 * p + m) (nI s)) (z_up (z_up D 119 (16 + 4 * p + m) (nI s)) 120 (4 + p) (nI (m + 1))) := DR_pl hd (by omega)
      have g3 : PLq p c (m + 1) (z_up C 77 (4 * p + m) (nI s)) (z_up (z_up D 119 (16 + 4 * p + m) (nI s)) 120 (4 + p) (nI (m + 1))) := by
        obtain ⟨x1, x2, x3, x4, x5⟩ := hpl
        refine ⟨x1, x2, x3, z_up_s, ?_⟩
        intro j hj
        by_cases hjm : j = m
        · rw [hjm]
          exact ⟨s, s2, z_up_s, (z_up_o (by decide)).trans z_up_s⟩
        · obtain ⟨s', w1, w2, w3⟩ := x5 j (by omega)
          refine ⟨s', w1, ?_, ?_⟩
          · rw [z_up_n (by omega)]; exact w2
          · rw [z_up_o (by decide), z_up_n (by omega)]; exact w3
      by_cases ht : t2 = 2
      · have et : nI t2 = (2 : Int32) := by rw [ht]; rfl
        rw [if_pos et, if_pos et]
        by_cases hm4 : m + 1 = 4
        · right
          rw [if_pos (show (4 : Int32) ≤ nI (m + 1) by rw [hm4]; decide)]
          obtain ⟨q1, q2⟩ := G_fail (f := 2) (p := nI b2) g1 (by decide)
          obtain ⟨w1, w2, w3⟩ := G_wrong (f := 2) (Mm := z_up (z_up Bm 119 (16 + 4 * p + m) (nI s)) 120 (4 + p) (nI (m + 1))) g1.2.2.2.2 y0 y22
          have hb := MJ_bad q2 w2
          obtain ⟨E, j1, -, j2⟩ := J_p83 (a := nI c) (c := nI (m + 1)) q2
          have ec : f_X3_readPlay_79_p66 (nI c) (nI (m + 1)) (z_up Bc 77 (4 * p + m) (nI s)) = some E := by
            unfold f_X3_readPlay_79_p66
            rw [if_pos (show z_up Bc 77 (4 * p + m) (nI s) 79 3 = (2 : Int32) from y3.trans et), show z_up Bc 77 (4 * p + m) (nI s) 79 4 = nI b2 from y4, q1, z_bv_s, j1]
          obtain ⟨fu2, rfl⟩ : ∃ y, fu2 = y + 1 := ⟨fu2 - 1, by omega⟩
          have em : f_X8_readPlay_107_p40 (fu2 + 1) (nI (4 + p)) (z_up (z_up Bm 119 (16 + 4 * p + m) (nI s)) 120 (4 + p) (nI (m + 1))) = some (z_up (z_up (z_up (z_up Bm 119 (16 + 4 * p + m) (nI s)) 120 (4 + p) (nI (m + 1))) 107 24 2) 107 25 (nI b2)) := by
            show (if (z_up (z_up Bm 119 (16 + 4 * p + m) (nI s)) 120 (4 + p) (nI (m + 1)) 107 24) = 0 then _ else _) = _
            rw [if_pos (show z_up (z_up Bm 119 (16 + 4 * p + m) (nI s)) 120 (4 + p) (nI (m + 1)) 107 24 = 0 from y0), if_pos (show z_up (z_up Bm 119 (16 + 4 * p + m) (nI s)) 120 (4 + p) (nI (m + 1)) 107 20 = 2 from y20.trans et), hz8, if_pos rfl, nI_clamp (by omega), z_up_s, if_pos (show nI (m + 1) = (4 : Int32) by rw [hm4]; rfl), w1, z_bv_s, N_p70 hb]
          rw [ec, em, z_bv_s]
          exact ⟨2, nI b2, x, E, _, rfl, B_end hb hx, j2, w2⟩
        · rw [if_neg (show ¬ (4 : Int32) ≤ nI (m + 1) from nI_ge (b := 4) (by omega) (by decide))]
          exact RSq_le (ih (m + 1) (by omega) (by omega) fu1 fu2 _ _ _ _ _ _ _ _ (by omega) (by omega) g1 g2 g3 (Or.inr ht) fB) (by omega)
      · have et : ¬ nI t2 = (2 : Int32) := fun z => ht ((nI_eq (b := 2) (by omega) (by decide)).mp z)
        have ec : f_X3_readPlay_79_p66 (nI c) (nI (m + 1)) (z_up Bc 77 (4 * p + m) (nI s)) = f_X3_readPlay_79_p83 (nI c) (nI (m + 1)) (z_up Bc 77 (4 * p + m) (nI s)) := by
          unfold f_X3_readPlay_79_p66
          rw [if_neg (show ¬ z_up Bc 77 (4 * p + m) (nI s) 79 3 = (2 : Int32) from fun z => et (y3.symm.trans z))]
        rw [if_neg et, if_neg et, ec, z_bv_s]
        have fin := RSq_le (r0 := e) (T_83 g1 g2 hp4 (by omega) g3 hx fB) (by omega)
        split
        · exact fin
        · exact fin
    · right
      have s1 : f_X3_takeNumber_79 (0 : Int32) (19 : Int32) Mc = some (-1, Bc) := s1
      have s2 : f_X8_readNumber_107 (0 : Int32) (19 : Int32) Mm = some ((0 : Int32), Bm) := s2
      have hb := BJ_bad s3
      have j3 : CJ u n f pp (z_pt Bc 77 16 (nI (4 * p + m)) (-1)) := J_pt77 s3.1
      obtain ⟨E, e1, e2, e3⟩ := J_p83 (a := nI c) (c := nI (m + 1)) j3
      rw [s1, z_bi_s, z_bv_s, s2, z_bi_s, if_neg hb, z_bv_s, e2]
      by_cases h4 : (4 : Int32) ≤ nI (m + 1)
      · rw [if_pos h4]; exact ⟨f, pp, x, E, Bm, rfl, B_end hb hx, e3, s3.2.1⟩
      · rw [if_neg h4]
        split
        · have hlt : m + 1 < 4 := by
            apply Nat.not_le.mp
            intro z
            exact h4 (nI_le (a := 4) z (by omega))
          obtain ⟨F, f1, f2⟩ := J_p22 (u := u) (n := n) (f := f) (p := pp) l (m + 1) (by omega) (by omega) fu1 (nI c) _ (by omega) j3
          exact ⟨f, pp, x, F, Bm, f1, B_end hb hx, f2, s3.2.1⟩
        · exact ⟨f, pp, x, E, Bm, rfl, B_end hb hx, e3, s3.2.1⟩
theorem T_play {u : Nat → Nat} {n e b t r w k g p q : Nat} {C D Mc Mm : zMM} {x : Int32} (h : GD u n e b t r C D Mc Mm) (hd : DR w k g p q C D) (hx : z_zb x = true) (hfl : Mc 79 8 = x) : RSq u n r (f_X3_readPlay_79 Mc) (z_bv (f_X8_readPlay_107 Mm) fun M => f_X8_readLine_107_p187 x M) x := by
  obtain ⟨p1, p2, p3⟩ := hd.2.2.2.1
  unfold f_X3_readPlay_79 f_X8_readPlay_107
  rcases G_head (x := 3) (j := 11) (most := 4) h (by decide) p2 p3 (by decide) p1 with ⟨b1, tt1, r1, Ac, Am, a0, a1, a2, a3⟩ | ⟨f, pp, Ac, Am, a1, a2, a3⟩
  · have a1 : f_X3_takeHead_79 (Mc 66 11) (4 : Int32) Mc = some Ac := a1
    have a2 : f_X8_begin_107 (3 : Int32) (4 : Int32) Mm = some ((1 : Int32), Am) := a2
    have hle1 := (GD_0 a3).2.2.2.2.2
    have fA : Ac 79 8 = x := (R_X3_takeHead_79 a1 79 8 rfl).trans hfl
    have eA : Am 109 8 = nI p := (a3.2.2.2.2 109 8 (by decide) (by decide)).trans p3
    rw [a1, z_bv_s, a2, z_bi_s, if_neg (show ¬ (1 : Int32) = 0 by decide), eA, show (4 : Int32) + nI p = nI (4 + p) from nI_add 4 p, show z_ib (nI (4 + p)) 8 = true from z_ib_n (by decide) (by omega), nI_clamp (by omega)]
    rcases G_num (lo := 1) (hi := 20) a3 (by decide) (by decide) with ⟨c, b2, t2, r2, Bc, Bm, s1, s2, s3, s4, s5⟩ | ⟨f, pp, Bc, Bm, s1, s2, s3⟩
    · have s3 : f_X3_takeNumber_79 (1 : Int32) (20 : Int32) Ac = some (nI c, Bc) := s3
      have s4 : f_X8_readNumber_107 (1 : Int32) (20 : Int32) Am = some (nI c, Bm) := s4
      have hle2 := (GD_0 s5).2.2.2.2.2
      have fB : Bc 79 8 = x := (R_X3_takeNumber_79 s3 79 8 rfl).trans fA
      rw [s3, z_bi_s, s4, z_bi_s, if_pos rfl, if_pos rfl]
      have g1 := GD_mu (a := 120) (i := 4 + p) (v := nI 0) (GD_mu (a := 118) (i := 4 + p) (v := nI c) s5 (by decide)) (by decide)
      exact RSq_le (T_22 a0 hx 4 0 (by decide) (by decide) z_fuel z_fuel _ _ _ _ _ _ _ _ (by decide) (by decide) g1 (DR_p0 hd) ⟨s1, s2, (z_up_o (by decide)).trans z_up_s, z_up_s, fun j hj => absurd hj (by omega)⟩ (Or.inl rfl) fB) (by omega)
    · right
      have s1 : f_X3_takeNumber_79 (1 : Int32) (20 : Int32) Ac = some (-1, Bc) := s1
      have s2 : f_X8_readNumber_107 (1 : Int32) (20 : Int32) Am = some ((0 : Int32), Bm) := s2
      have hb := BJ_bad s3
      obtain ⟨E, j1, j2⟩ := J_p22 (u := u) (n := n) (f := f) (p := pp) 4 0 (by decide) (by decide) z_fuel (-1) Bc (by decide) s3.1
      have j1 : f_X3_readPlay_79_p22 z_fuel (-1 : Int32) (0 : Int32) Bc = some E := j1
      rw [s1, z_bi_s, s2, z_bi_s, if_pos rfl, if_pos rfl, N_p40 (M := z_up (z_up Bm 118 (4 + p) (0 : Int32)) 120 (4 + p) (0 : Int32)) (by decide) hb, z_bv_s]
      exact ⟨f, pp, x, E, _, j1, B_end (M := z_up (z_up Bm 118 (4 + p) (0 : Int32)) 120 (4 + p) (0 : Int32)) hb hx, j2, s3.2.1⟩
  · right
    have a1 : f_X3_takeHead_79 (Mc 66 11) (4 : Int32) Mc = some Ac := a1
    have a2 : f_X8_begin_107 (3 : Int32) (4 : Int32) Mm = some ((0 : Int32), Am) := a2
    obtain ⟨v, A, i1, i2⟩ := J_num (x := 1) (y := 20) a3.1
    obtain ⟨E, j1, j2⟩ := J_p22 (u := u) (n := n) (f := f) (p := pp) 4 0 (by decide) (by decide) z_fuel v A (by decide) i2
    rw [a1, z_bv_s, a2, z_bi_s, if_pos rfl, z_bv_s, i1, z_bi_s]
    exact ⟨f, pp, x, E, Am, j1, B_end (BJ_bad a3) hx, j2, a3.2.1⟩
theorem T_line {u : Nat → Nat} {n e b t r w k g p q : Nat} {C D Mc Mm : zMM} {x : Int32} (h : GD u n e b t r C D Mc Mm) (hd : DR w k g p q C D) (hx : z_zb x = true) (hfl : Mc 79 8 = x) : ∃ x', z_zb x' = true ∧ RSq u n r (f_X3_readLine_79 Mc) (f_X8_readLine_107 x Mm) x' := by
  obtain ⟨w3, w9, w10, w11, w12, w13, w14, -⟩ := wsq_all
  obtain ⟨z0, z22, z4, -⟩ := GD_0 h
  obtain ⟨b1, tt1, r1, Ac, Am, a1, a2, a3⟩ := G_step h
  have un : ∀ R : Option zMM, (z_bv R fun M => some M) = R := by
    intro R
    cases R <;> rfl
  unfold f_X3_readLine_79 f_X8_readLine_107
  simp only [un]
  rcases G_word h w3 with ⟨-, c1, c2⟩ | ⟨-, c1, c2⟩
  · rw [c1, z_bi_s, if_neg (show ¬ (1 : Int32) = 0 by decide), c2, z_bi_s, if_neg (show ¬ (1 : Int32) = 0 by decide)]
    exact ⟨x, hx, T_town h hd hx hfl⟩
  rw [c1, z_bi_s, if_pos rfl, c2, z_bi_s, if_pos rfl]
  rcases G_word h w9 with ⟨-, c1, c2⟩ | ⟨-, c1, c2⟩
  · have ep : f_X8_passes_107_21 Mm = some ((1 : Int32), Am) := by
      unfold f_X8_passes_107_21
      rw [c2, z_bi_s, if_neg (by decide), a2, z_bv_s, if_pos (by decide)]
    rw [c1, z_bi_s, if_neg (show ¬ (1 : Int32) = 0 by decide), ep, z_bi_s, if_neg (show ¬ (1 : Int32) = 0 by decide)]
    exact ⟨x, hx, T_train h hd hx hfl a2⟩
  have ep : f_X8_passes_107_21 Mm = some ((0 : Int32), Mm) := by
    unfold f_X8_passes_107_21
    rw [c2, z_bi_s, if_pos rfl, if_pos (by decide)]
  rw [c1, z_bi_s, if_pos rfl, ep, z_bi_s, if_pos rfl]
  rcases G_word h w10 with ⟨-, c1, c2⟩ | ⟨-, c1, c2⟩
  · rw [c1, z_bi_s, if_neg (show ¬ (1 : Int32) = 0 by decide), c2, z_bi_s, if_neg (show ¬ (1 : Int32) = 0 by decide)]
    exact ⟨x, hx, T_trunk h hd hx hfl⟩
  rw [c1, z_bi_s, if_pos rfl, c2, z_bi_s, if_pos rfl]
  rcases G_word h w11 with ⟨-, c1, c2⟩ | ⟨-, c1, c2⟩
  · rw [c1, z_bi_s, if_neg (show ¬ (1 : Int32) = 0 by decide), c2, z_bi_s, if_neg (show ¬ (1 : Int32) = 0 by decide)]
    exact ⟨x, hx, T_thing h hd hx hfl⟩
  rw [c1, z_bi_s, if_pos rfl, c2, z_bi_s, if_pos rfl]
  rcases G_word h w12 with ⟨-, c1, c2⟩ | ⟨-, c1, c2⟩
  · rw [c1, z_bi_s, if_neg (show ¬ (1 : Int32) = 0 by decide), c2, z_bi_s, if_neg (show ¬ (1 : Int32) = 0 by decide)]
    exact ⟨x, hx, T_play h hd hx hfl⟩
  rw [c1, z_bi_s, if_pos rfl, c2, z_bi_s, if_pos rfl]
  rcases G_word h w13 with ⟨-, c1, c2⟩ | ⟨-, c1, c2⟩
  · have ep : f_X8_passes_107_25 Mm = some ((1 : Int32), Am) := by
      unfold f_X8_passes_107_25
      rw [c2, z_bi_s, if_neg (by decide), a2, z_bv_s, if_pos (by decide)]
    rw [c1, z_bi_s, if_neg (show ¬ (1 : Int32) = 0 by decide), ep, z_bi_s, if_neg (show ¬ (1 : Int32) = 0 by decide)]
    exact ⟨x, hx, T_like h hd hx hfl a2⟩
  have ep : f_X8_passes_107_25 Mm = some ((0 : Int32), Mm) := by
    unfold f_X8_passes_107_25
    rw [c2, z_bi_s, if_pos rfl, if_pos (by decide)]
  rw [c1, z_bi_s, if_pos rfl, ep, z_bi_s, if_pos rfl]
  rcases G_word h w14 with ⟨-, c1, c2⟩ | ⟨-, c1, c2⟩
  · rw [c1, z_bi_s, if_neg (show ¬ (1 : Int32) = 0 by decide), c2, z_bi_s, if_neg (show ¬ (1 : Int32) = 0 by decide)]
    exact ⟨1, by decide, T_troupe h hd hfl⟩
  rw [c1, z_bi_s, if_pos rfl, c2, z_bi_s, if_pos rfl]
  obtain ⟨q1, q2⟩ := G_fail (f := 1) (p := nI b) h (by decide)
  obtain ⟨y1, y2, y3⟩ := G_wrong (f := 1) h.2.2.2.2 z0 z22
  obtain ⟨F, f1, f2, f3⟩ := N_t171 (MJ_bad q2 y2) y2
  rw [z4, q1, y1, z_bv_s, f2]
  exact ⟨1, by decide, Or.inr ⟨1, nI b, 1, _, F, rfl, rfl, q2, f3⟩⟩
theorem L_main {u : Nat → Nat} {n : Nat} : ∀ l fu1 fu2 line e b t r w k g p q C D Mc Mm x, n - e ≤ l → l + 1 < fu1 → l + 1 < fu2 → line ≤ e → GD u n e b t r C D Mc Mm → DR w k g p q C D → z_zb x = true → Mc 79 8 = x →
    (∃ e b t r w k g p q C D Mc' Mm', f_X3_read_79_p46 fu1 (nI line) Mc = some ((0 : Int32), Mc') ∧ f_X8_told_107_p136 fu2 x Mm = f_X8_told_107_p159 Mm' ∧ GD u n e b t r C D Mc' Mm' ∧ DR w k g p q C D) ∨
    (∃ f pp Mc' Mm', f_X3_read_79_p46 fu1 (nI line) Mc = some (f, Mc') ∧ f_X8_told_107_p136 fu2 x Mm = f_X8_told_107_p159 Mm' ∧ CJ u n f pp Mc' ∧ MJ f pp Mm') := by
  intro l
  induction l with
  | zero =>
    intro fu1 fu2 line e b t r w k g p q C D Mc Mm x hl h1 h2 hline h hd hx hfl
    obtain ⟨fu1, rfl⟩ : ∃ y, fu1 = y + 1 := ⟨fu1 - 1, by omega⟩
    obtain ⟨fu2, rfl⟩ : ∃ y, fu2 = y + 1 := ⟨fu2 - 1, by omega⟩
    obtain ⟨z0, z22, z4, z20, z3, y1, y2, y3, y4, y5, y6, y7, y8⟩ := GD_0 h
    have ht : t = 0 := by
      apply Classical.byContradiction
      intro z
      have := y6 z
      omega
    left
    refine ⟨e, b, t, r, w, k, g, p, q, C, D, Mc, Mm, ?_, ?_, h, hd⟩
    · unfold f_X3_read_79_p46
      rw [y7, if_neg (nI_nlt (by omega) (by omega)), z3, if_pos (by rw [ht]; rfl), y8]
    · unfold f_X8_told_107_p136
      rw [if_pos z0, z20, if_pos (by rw [ht]; rfl)]
  | succ l ih =>
    intro fu1 fu2 line e b t r w k g p q C D Mc Mm x hl h1 h2 hline h hd hx hfl
    obtain ⟨fu1, rfl⟩ : ∃ y, fu1 = y + 1 := ⟨fu1 - 1, by omega⟩
    obtain ⟨fu2, rfl⟩ : ∃ y, fu2 = y + 1 := ⟨fu2 - 1, by omega⟩
    obtain ⟨z0, z22, z4, z20, z3, y1, y2, y3, y4, y5, y6, y7, y8⟩ := GD_0 h
    have e46 : f_X3_read_79_p46 (fu1 + 1) (nI line) Mc = if nI t = 0 then some ((0 : Int32), Mc) else z_bv (f_X3_readLine_79 Mc) fun M12 => f_X3_read_79_p46 fu1 (nI (line + 1)) M12 := by
      show (if (Mc 79 2) < nI line then _ else _) = _
      rw [y7, if_neg (nI_nlt (by omega) (by omega)), z3, y8, if_pos rfl, nI_1]
    have e136 : f_X8_told_107_p136 (fu2 + 1) x Mm = if nI t = 0 then f_X8_told_107_p159 Mm else z_bi (f_X8_readLine_107 x Mm) fun v19 M20 => f_X8_told_107_p136 fu2 v19 M20 := by
      show (if (Mm 107 24) = 0 then _ else _) = _
      rw [if_pos z0, z20]
    rw [e46, e136]
    by_cases ht : t = 0
    · have et : nI t = (0 : Int32) := by rw [ht]; rfl
      rw [if_pos et, if_pos et]
      exact Or.inl ⟨e, b, t, r, w, k, g, p, q, C, D, Mc, Mm, rfl, rfl, h, hd⟩
    · have et : ¬ nI t = (0 : Int32) := fun z => ht ((nI_eq (b := 0) (by omega) (by decide)).mp z)
      rw [if_neg et, if_neg et]
      have hbr := y6 ht
      obtain ⟨x', hx', hr⟩ := T_line h hd hx hfl
      rcases hr with ⟨e', b', t', r', C', D', w', k', g', p', q', Nc, Nm, r1, r2, r3, r4, r5, r6⟩ | ⟨f, pp, v, Nc, Nm, r1, r2, r3, r4⟩
      · rw [r1, z_bv_s, r2, z_bi_s]
        exact ih fu1 fu2 (line + 1) e' b' t' r' w' k' g' p' q' C' D' Nc Nm x' (by omega) (by omega) (by omega) (by omega) r3 r4 hx' r6
      · right
        rw [r1, z_bv_s, r2, z_bi_s]
        refine ⟨f, pp, Nc, Nm, ?_, ?_, r3, r4⟩
        · obtain ⟨fu1, rfl⟩ : ∃ y, fu1 = y + 1 := ⟨fu1 - 1, by omega⟩
          have r9 : Nc 79 9 = f := r3.2.2.2.2.2.1
          have hf : ¬ f = 0 := r3.2.2.2.2.1
          unfold f_X3_read_79_p46
          rw [r9, if_neg hf]
          split
          · rfl
          · split <;> rfl
        · obtain ⟨fu2, rfl⟩ : ∃ y, fu2 = y + 1 := ⟨fu2 - 1, by omega⟩
          unfold f_X8_told_107_p136
          rw [if_neg (MJ_bad r3 r4)]
