/-! ===== told: troupe, town ===== -/
theorem J_tr16 {u : Nat → Nat} {n : Nat} {f p : Int32} {M : zMM} (h : CJ u n f p M) : ∃ M', f_X3_readTroupe_79_p16 M = some M' ∧ CJ u n f p M' := by
  obtain ⟨S, s1, s2⟩ := J_step h
  obtain ⟨v, A, j1, j2⟩ := J_num (x := 1) (y := 40) s2
  obtain ⟨E, j3, j4⟩ := J_end j2
  refine ⟨E, ?_, j4⟩
  unfold f_X3_readTroupe_79_p16
  rw [s1, z_bv_s, j1, z_bi_s, j3, z_bi_s, if_pos rfl]
theorem N_t171 {f p : Int32} {M : zMM} (h : ¬ M 107 24 = 0) (hj : MJ f p M) : ∃ M', f_X8_readLine_107_p171 M = some ((1 : Int32), M') ∧ f_X8_readLine_107_p160 M = some ((1 : Int32), M') ∧ MJ f p M' := by
  have e : f_X8_readLine_107_p171 M = some ((1 : Int32), z_up M 109 9 (0 : Int32)) := by
    unfold f_X8_readLine_107_p171
    rw [N_bad_num h, z_bi_s, B_end (M := z_up M 109 9 (0 : Int32)) h (by decide)]
  refine ⟨_, e, ?_, hj⟩
  unfold f_X8_readLine_107_p160
  rw [if_neg h, e]
theorem T_troupe {u : Nat → Nat} {n e b t r w k g p q : Nat} {C D Mc Mm : zMM} {x : Int32} (h : GD u n e b t r C D Mc Mm) (hd : DR w k g p q C D) (hfl : Mc 79 8 = x) : RSq u n r (f_X3_readTroupe_79 Mc) (if x = 0 then f_X8_readLine_107_p160 Mm else z_bv (f_X8_wrong_107 (5 : Int32) Mm) fun M65 => f_X8_readLine_107_p160 M65) 1 := by
  obtain ⟨hw, hk, hg, hp, hq, t1, t2, t3, t4, t5, t6⟩ := hd
  obtain ⟨z0, z22, z4, -⟩ := GD_0 h
  unfold f_X3_readTroupe_79
  rw [hfl]
  by_cases hx0 : x = 0
  · rw [if_pos hx0, if_pos hx0]
    obtain ⟨b1, tt1, r1, Ac, Am, a1, a2, a3⟩ := G_step h
    have hle1 := (GD_0 a3).2.2.2.2.2
    unfold f_X8_readLine_107_p160 f_X8_readLine_107_p171 f_X3_readTroupe_79_p16
    rw [if_pos z0, a1, z_bv_s, a2, z_bv_s]
    rcases G_num (lo := 1) (hi := 40) a3 (by decide) (by decide) with ⟨v, b2, tt2, r2, Bc, Bm, s1, s2, s3, s4, s5⟩ | ⟨f, pp, Bc, Bm, s1, s2, s3⟩
    · have s3 : f_X3_takeNumber_79 (1 : Int32) (40 : Int32) Ac = some (nI v, Bc) := s3
      have s4 : f_X8_readNumber_107 (1 : Int32) (40 : Int32) Am = some (nI v, Bm) := s4
      have hle2 := (GD_0 s5).2.2.2.2.2
      rw [s3, z_bi_s, s4, z_bi_s]
      rcases G_end (x := 1) (GD_mu (a := 109) (i := 9) (v := nI v) s5 (by decide)) (by decide) with ⟨b5, tt5, r5, Ec, Em, e1, e2, e3⟩ | ⟨f, pp, Ec, Em, e1, e2, e3⟩
      · left
        rw [e1, z_bi_s, if_neg (by decide), e2]
        refine ⟨_, _, _, _, z_up C 66 16 (nI v), _, w, k, g, p, v, _, _, rfl, rfl, GD_c (GD_cu (a := 66) (i := 16) (v := nI v) e3 (by decide)) ?_ ?_, ?_, by omega, z_up_s⟩
        · intro a c ha h7 h8
          by_cases h79 : a = 79
          · rw [h79, z_up_n (fun z => h8 ⟨h79, z⟩)]
          · rw [z_up_o h79]
        · intro a c ha1 ha2
          rw [z_up_o (by omega)]
          exact (GD_cu (a := 66) (i := 16) (v := nI v) e3 (by decide)).2.2.2.1 a c ha1 ha2
        · exact ⟨hw, hk, hg, hp, ⟨s1, s2, rfl, rfl⟩, t1, t2, t3, t4, t5, t6⟩
      · right
        rw [e1, z_bi_s, if_pos rfl, e2]
        exact ⟨f, pp, 1, Ec, Em, rfl, rfl, e3.1, e3.2.1⟩
    · right
      have s1 : f_X3_takeNumber_79 (1 : Int32) (40 : Int32) Ac = some (-1, Bc) := s1
      have s2 : f_X8_readNumber_107 (1 : Int32) (40 : Int32) Am = some ((0 : Int32), Bm) := s2
      have hb := BJ_bad s3
      obtain ⟨E, j1, j2⟩ := J_end s3.1
      rw [s1, z_bi_s, s2, z_bi_s, j1, z_bi_s, if_pos rfl, B_end (M := z_up Bm 109 9 (0 : Int32)) hb (by decide)]
      exact ⟨f, pp, 1, E, _, rfl, rfl, j2, s3.2.1⟩
  · rw [if_neg hx0, if_neg hx0]
    right
    obtain ⟨q1, q2⟩ := G_fail (f := 5) (p := nI b) h (by decide)
    obtain ⟨w1, w2, w3⟩ := G_wrong (f := 5) h.2.2.2.2 z0 z22
    have hb := MJ_bad q2 w2
    obtain ⟨E, j1, j2⟩ := J_tr16 q2
    obtain ⟨F, f1, f2, f3⟩ := N_t171 hb w2
    rw [z4, q1, z_bv_s, j1, w1, z_bv_s, f2]
    exact ⟨5, nI b, 1, E, F, rfl, rfl, j2, f3⟩
/-! town -/
theorem J_t69 {u : Nat → Nat} {n : Nat} {f p a b c d : Int32} {M : zMM} (h : CJ u n f p M) : ∃ M', f_X3_readTown_79_p69 a b c d M = some M' ∧ CJ u n f p M' := by
  obtain ⟨E, j3, j4⟩ := J_end h
  refine ⟨E, ?_, j4⟩
  unfold f_X3_readTown_79_p69
  rw [j3, z_bi_s, if_pos rfl]
theorem J_t33 {u : Nat → Nat} {n : Nat} {f p a b : Int32} {M : zMM} (h : CJ u n f p M) : ∃ M', f_X3_readTown_79_p33 a b M = some M' ∧ CJ u n f p M' := by
  obtain ⟨v, hv⟩ := J_word (s := 8) (by decide) (M := M)
  unfold f_X3_readTown_79_p33
  rw [hv, z_bi_s]
  by_cases h0 : v = 0
  · rw [if_pos h0]
    exact J_t69 h
  · rw [if_neg h0]
    obtain ⟨S, s1, s2⟩ := J_step h
    obtain ⟨v1, A, j1, j2⟩ := J_num (x := 0) (y := 9) s2
    obtain ⟨v2, B, i1, i2⟩ := J_num (x := 0) (y := 99) j2
    rw [s1, z_bv_s, j1, z_bi_s, i1, z_bi_s]
    exact J_t69 i2
theorem N_t151 {f p a : Int32} {j : Nat} {M : zMM} (hj : MJ f p M) (h : j < 10) : ∃ M', f_X8_readTown_107_p151 a (nI j) M = some M' ∧ MJ f p M' := by
  unfold f_X8_readTown_107_p151
  rw [if_pos (z_ib_n (by decide) h)]
  refine ⟨_, rfl, ?_⟩
  exact hj
theorem N_t130 {f p a x3 : Int32} {j : Nat} {M : zMM} (hj : MJ f p M) (hb : ¬ M 107 24 = 0) (h : j < 10) : ∃ M', f_X8_readTown_107_p130 (nI j) x3 a (nI j) M = some M' ∧ MJ f p M' := by
  unfold f_X8_readTown_107_p130
  rw [if_pos (z_ib_n (by decide) h), nI_clamp (by omega)]
  have hj2 : MJ f p (z_up M 112 j a) := hj
  by_cases h3 : x3 = 0
  · rw [if_pos h3]
    exact N_t151 hj2 h
  · rw [if_neg h3, N_bad_num (M := z_up M 112 j a) hb, z_bi_s]
    exact N_t151 hj2 h
theorem N_t102 {f p a : Int32} {j : Nat} {M : zMM} (hj : MJ f p M) (hb : ¬ M 107 24 = 0) (h : j < 10) : ∃ M', f_X8_readTown_107_p102 (nI j) a (nI j) M = some M' ∧ MJ f p M' := by
  unfold f_X8_readTown_107_p102
  rw [if_pos (z_ib_n (by decide) h), nI_clamp (by omega)]
  have hj2 : MJ f p (z_up M 111 j a) := hj
  have e : f_X8_passes_107_20 (z_up M 111 j a) = some ((0 : Int32), z_up M 111 j a) := by
    unfold f_X8_passes_107_20
    rw [N_bad_is (M := z_up M 111 j a) (by decide) hb, z_bi_s, if_pos rfl, if_pos (by decide)]
  rw [e, z_bi_s, if_pos rfl]
  exact N_t130 hj2 hb h
theorem N_t74 {f p a : Int32} {j : Nat} {M : zMM} (hj : MJ f p M) (hb : ¬ M 107 24 = 0) (h : j < 10) : ∃ M', f_X8_readTown_107_p74 (nI j) a M = some M' ∧ MJ f p M' := by
  unfold f_X8_readTown_107_p74
  rw [if_pos (z_ib_n (by decide) h), nI_clamp (by omega)]
  have hj2 : MJ f p (z_up M 110 j a) := hj
  by_cases h3 : a = 0
  · rw [if_pos h3]
    exact N_t102 hj2 hb h
  · rw [if_neg h3, N_bad_num (M := z_up M 110 j a) hb, z_bi_s]
    exact N_t102 hj2 hb h
theorem T_69 {u : Nat → Nat} {n e b t r w k g p q a1 a2 a3 a4 : Nat} {C D Mc Mm : zMM} {x : Int32} (hd : DR w k g p q C D) (hw : w < 5) (h1 : a1 ≤ 3) (h2 : a2 ≤ 1000) (h3 : a3 ≤ 9) (h4 : a4 ≤ 99) (h5 : a1 = 0 → a2 = 0) (h : GD u n e b t r C (z_up (z_up (z_up D 110 (5 + w) (nI a1)) 111 (5 + w) (nI a2)) 112 (5 + w) (nI a3)) Mc Mm) (hx : z_zb x = true) (hfl : Mc 79 8 = x) : RSq u n e (f_X3_readTown_79_p69 (nI a1) (nI a2) (nI a3) (nI a4) Mc) (z_bv (f_X8_readTown_107_p151 (nI a4) (nI (5 + w)) Mm) fun M => f_X8_readLine_107_p187 x M) x := by
  obtain ⟨⟨w1, w2, w3⟩, hk, hg, hp, hq, t1, t2, t3, t4, t5, t6⟩ := hd
  have hle := (GD_0 h).2.2.2.2.2
  have eM : Mm 109 5 = nI w := (h.2.2.2.2 109 5 (by decide) (by decide)).trans w3
  unfold f_X8_readTown_107_p151
  rw [if_pos (z_ib_n (by decide) (by omega)), nI_clamp (by omega), z_bv_s, eM, nI_1]
  rcases G_end (x := x) (GD_mu (a := 109) (i := 5) (v := nI (w + 1)) (GD_mu (a := 113) (i := 5 + w) (v := nI a4) h (by decide)) (by decide)) hx with ⟨b5, tt5, r5, Ec, Em, e1, e2, e3⟩ | ⟨f, pp, Ec, Em, e1, e2, e3⟩
  · left
    have eC : Ec 66 0 = nI w := (e3.2.2.2.1 66 0 (by decide) (by decide)).trans w2
    have rcx : f_X3_readTown_79_p69 (nI a1) (nI a2) (nI a3) (nI a4) Mc = some (z_up (z_up (z_up (z_up (z_up Ec 67 w (nI a1)) 68 w (nI a2)) 69 w (nI a3)) 70 w (nI a4)) 66 0 (nI (w + 1))) := by
      unfold f_X3_readTown_79_p69
      rw [e1, z_bi_s, if_neg (by decide), eC, z_pt_nI (by decide) hw, z_bv_s, show z_up Ec 67 w (nI a1) 66 0 = nI w from eC, z_pt_nI (by decide) hw, z_bv_s, show z_up (z_up Ec 67 w (nI a1)) 68 w (nI a2) 66 0 = nI w from eC, z_pt_nI (by decide) hw, z_bv_s, show z_up (z_up (z_up Ec 67 w (nI a1)) 68 w (nI a2)) 69 w (nI a3) 66 0 = nI w from eC, z_pt_nI (by decide) hw, z_bv_s, show z_up (z_up (z_up (z_up Ec 67 w (nI a1)) 68 w (nI a2)) 69 w (nI a3)) 70 w (nI a4) 66 0 = nI w from eC, nI_1]
    refine ⟨_, _, _, _, _, _, w + 1, k, g, p, q, _, _, rcx, e2, GD_cu (GD_cu (GD_cu (GD_cu (GD_cu e3 (by decide)) (by decide)) (by decide)) (by decide)) (by decide), ?_, by omega, (R_X3_readTown_79_p69 rcx 79 8 rfl).trans hfl⟩
    refine ⟨⟨by omega, rfl, rfl⟩, hk, hg, hp, hq, ?_, ?_, ?_, t4, t5, t6⟩
    · intro i hi
      by_cases hik : i = w
      · exact ⟨a1, a2, a3, a4, h1, h2, h3, h4, h5, by simp [z_up, hik], by simp [z_up, hik], by simp [z_up, hik], by simp [z_up, hik], by simp [z_up, hik], by simp [z_up, hik], by simp [z_up, hik], by simp [z_up, hik]⟩
      · obtain ⟨c1, c2, c3, c4, y1, y2, y3, y4, y5, y6, y7, y8, y9, y10, y11, y12, y13⟩ := t1 i (by omega)
        exact ⟨c1, c2, c3, c4, y1, y2, y3, y4, y5, by simp [z_up, hik, y6], by simp [z_up, hik, y7], by simp [z_up, hik, y8], by simp [z_up, hik, y9], by simp [z_up, hik, y10], by simp [z_up, hik, y11], by simp [z_up, hik, y12], by simp [z_up, hik, y13]⟩
    · intro i hi
      rcases t2 i hi with z | ⟨d, y1, y2, y3, y4, y5, y6, y7⟩
      · exact Or.inl z
      · exact Or.inr ⟨d, y1, y2, y3, y4, by omega, by omega, y7⟩
    · intro i hi
      obtain ⟨y, y1, y2⟩ := t3 i hi
      exact ⟨y, by omega, y2⟩
  · right
    refine ⟨f, pp, x, Ec, Em, ?_, e2, e3.1, e3.2.1⟩
    unfold f_X3_readTown_79_p69
    rw [e1, z_bi_s, if_pos rfl]
theorem RSq_le {u : Nat → Nat} {n r0 r1 : Nat} {rc : Option zMM} {rm : Option (Int32 × zMM)} {x : Int32} (h : RSq u n r1 rc rm x) (hr : r0 ≤ r1) : RSq u n r0 rc rm x := by
  rcases h with ⟨e, b, t, r, C, D, w, k, g, p, q, Mc, Mm, h1, h2, h3, h4, h5, h6⟩ | h
  · exact Or.inl ⟨e, b, t, r, C, D, w, k, g, p, q, Mc, Mm, h1, h2, h3, h4, by omega, h6⟩
  · exact Or.inr h
theorem T_102 {u : Nat → Nat} {n e b t r w k g p q a1 a2 : Nat} {C D Mc Mm : zMM} {x : Int32} (hd : DR w k g p q C D) (hw : w < 5) (h1 : a1 ≤ 3) (h2 : a2 ≤ 1000) (h5 : a1 = 0 → a2 = 0) (h : GD u n e b t r C (z_up D 110 (5 + w) (nI a1)) Mc Mm) (hx : z_zb x = true) (hfl : Mc 79 8 = x) : RSq u n e (f_X3_readTown_79_p33 (nI a1) (nI a2) Mc) (z_bv (f_X8_readTown_107_p102 (nI (5 + w)) (nI a2) (nI (5 + w)) Mm) fun M => f_X8_readLine_107_p187 x M) x := by
  have hle := (GD_0 h).2.2.2.2.2
  have h' := GD_mu (a := 111) (i := 5 + w) (v := nI a2) h (by decide)
  unfold f_X8_readTown_107_p102 f_X3_readTown_79_p33
  rw [if_pos (z_ib_n (by decide) (by omega)), nI_clamp (by omega)]
  rcases G_word (s := 8) (s' := 20) h' wsq_all.2.2.2.2.2.2.2.1 with ⟨-, c1, c2⟩ | ⟨-, c1, c2⟩
  · obtain ⟨b1, tt1, r1, Ac, Am, s1, s2, s3⟩ := G_step h'
    have hle1 := (GD_0 s3).2.2.2.2.2
    have fA : Ac 79 8 = x := (R_X3_step_79 s1 79 8 rfl).trans hfl
    have ep : f_X8_passes_107_20 (z_up Mm 111 (5 + w) (nI a2)) = some ((1 : Int32), Am) := by
      unfold f_X8_passes_107_20
      rw [c2, z_bi_s, if_neg (by decide), s2, z_bv_s, if_pos (by decide)]
    rw [c1, z_bi_s, if_neg (by decide), s1, z_bv_s, ep, z_bi_s, if_neg (by decide)]
    rcases G_num (lo := 0) (hi := 9) s3 (by decide) (by decide) with ⟨l, b2, tt2, r2, Bc, Bm, l1, l2, l3, l4, l5⟩ | ⟨f, pp, Bc, Bm, l1, l2, l3⟩
    · have l3 : f_X3_takeNumber_79 (0 : Int32) (9 : Int32) Ac = some (nI l, Bc) := l3
      have l4 : f_X8_readNumber_107 (0 : Int32) (9 : Int32) Am = some (nI l, Bm) := l4
      have hle2 := (GD_0 l5).2.2.2.2.2
      have fB : Bc 79 8 = x := (R_X3_takeNumber_79 l3 79 8 rfl).trans fA
      rw [l3, z_bi_s, l4, z_bi_s]
      unfold f_X8_readTown_107_p130
      rw [if_pos (z_ib_n (by decide) (by omega)), nI_clamp (by omega), if_neg (by decide)]
      rcases G_num (lo := 0) (hi := 99) (GD_mu (a := 112) (i := 5 + w) (v := nI l) l5 (by decide)) (by decide) (by decide) with ⟨c, b3, tt3, r3, Xc, Xm, d1, d2, d3, d4, d5⟩ | ⟨f, pp, Xc, Xm, d1, d2, d3⟩
      · have d3 : f_X3_takeNumber_79 (0 : Int32) (99 : Int32) Bc = some (nI c, Xc) := d3
        have d4 : f_X8_readNumber_107 (0 : Int32) (99 : Int32) (z_up Bm 112 (5 + w) (nI l)) = some (nI c, Xm) := d4
        have fX : Xc 79 8 = x := (R_X3_takeNumber_79 d3 79 8 rfl).trans fB
        rw [d3, z_bi_s, d4, z_bi_s]
        exact RSq_le (T_69 hd hw h1 h2 (by omega) (by omega) h5 d5 hx fX) (by omega)
      · right
        have d1 : f_X3_takeNumber_79 (0 : Int32) (99 : Int32) Bc = some (-1, Xc) := d1
        have d2 : f_X8_readNumber_107 (0 : Int32) (99 : Int32) (z_up Bm 112 (5 + w) (nI l)) = some ((0 : Int32), Xm) := d2
        obtain ⟨E, j1, j2⟩ := J_t69 (a := nI a1) (b := nI a2) (c := nI l) (d := -1) d3.1
        obtain ⟨F, f1, f2⟩ := N_t151 (a := 0) (j := 5 + w) d3.2.1 (by omega)
        rw [d1, z_bi_s, d2, z_bi_s, f1, z_bv_s]
        exact ⟨f, pp, x, E, F, j1, B_end (MJ_bad d3.1 f2) hx, j2, f2⟩
    · right
      have l1 : f_X3_takeNumber_79 (0 : Int32) (9 : Int32) Ac = some (-1, Bc) := l1
      have l2 : f_X8_readNumber_107 (0 : Int32) (9 : Int32) Am = some ((0 : Int32), Bm) := l2
      obtain ⟨v2, Y, i1, i2⟩ := J_num (x := 0) (y := 99) l3.1
      obtain ⟨E, j1, j2⟩ := J_t69 (a := nI a1) (b := nI a2) (c := -1) (d := v2) i2
      obtain ⟨F, f1, f2⟩ := N_t130 (a := 0) (x3 := 1) (j := 5 + w) l3.2.1 (BJ_bad l3) (by omega)
      rw [l1, z_bi_s, i1, z_bi_s, l2, z_bi_s, f1, z_bv_s]
      exact ⟨f, pp, x, E, F, j1, B_end (MJ_bad l3.1 f2) hx, j2, f2⟩
  · have ep : f_X8_passes_107_20 (z_up Mm 111 (5 + w) (nI a2)) = some ((0 : Int32), z_up Mm 111 (5 + w) (nI a2)) := by
      unfold f_X8_passes_107_20
      rw [c2, z_bi_s, if_pos rfl, if_pos (by decide)]
    rw [c1, z_bi_s, if_pos rfl, ep, z_bi_s, if_pos rfl]
    unfold f_X8_readTown_107_p130
    rw [if_pos (z_ib_n (by decide) (by omega)), nI_clamp (by omega), if_pos rfl]
    exact T_69 (a3 := 0) (a4 := 0) hd hw h1 h2 (by omega) (by omega) h5 (GD_mu (a := 112) (i := 5 + w) (v := nI 0) h' (by decide)) hx hfl
