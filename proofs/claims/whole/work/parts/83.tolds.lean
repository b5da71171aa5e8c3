/-! ===== told: the invariant when all is told anew ===== -/
theorem I_succ {k w kk g p q : Nat} {M M1 Mm M2 C D : zMM} (hI : z_I k M) (hd : DR w kk g p q C D) (fr : z_fr w_X7_told_51 M M1) (f93 : ∀ i, M1 93 i = M 93 i) (fm : z_fr w_rd M1 Mm) (f2 : z_fr w_X8_take_107 Mm M2) (x17 : Mm 107 17 = 0) (x26 : Mm 107 26 = -1) (hs : SCq w kk g p q C M1) (hm : SMq w kk g p q C D M2) : z_I (k + 1) M2 := by
  have gC : ∀ c d, z_ok w_rd c d = true → z_ok w_X8_take_107 c d = true → M2 c d = M1 c d := fun c d o1 o2 => (f2 c d o2).trans (fm c d o1)
  obtain ⟨⟨w1, w2, w3⟩, ⟨k1, k2, k3⟩, ⟨g1, g2, g3⟩, ⟨p1, p2, p3⟩, ⟨q1, q1', q2, q3⟩, t1, t2, t3, t4, t5, t6⟩ := hd
  obtain ⟨⟨s0, s6, s8, s11, s16⟩, s54, s58, s60, s62, s64, s65, s81, s84, s88, s872, s873, s875, s101, s103, s511, s512, s510⟩ := hs
  obtain ⟨⟨n0, n1, n2, n3, n4⟩, n10, n14, n16, n18, n19, n21, n24, n26, n27, n29, n33, n31, n32, n53, n54⟩ := hm
  obtain ⟨c1, c2, c3⟩ := Tc_of t2
  have etw : tw M2 = w := by unfold tw; rw [n0]; exact nI_clamp (by omega)
  have etk : tk M2 = kk := by unfold tk; rw [n1]; exact nI_clamp (by omega)
  have etg : tg M2 = g := by unfold tg; rw [n2]; exact nI_clamp (by omega)
  have etp : tp M2 = p := by unfold tp; rw [n3]; exact nI_clamp (by omega)
  have eni : ni M2 = 0 := by unfold ni; rw [n32]; rfl
  have e17 : M2 107 17 = 0 := (f2 107 17 rfl).trans x17
  have bd0 : ∀ hi : Int, 0 ≤ hi → z_bd 0 0 hi := fun hi h => ⟨by decide, h⟩
  have zz : z_zb (0 : Int32) = true := rfl
  have o10 : ¬ (0 : Int32) = 1 := by decide
  refine ⟨?_, ?_, ?_, ?_, ?_, ?_, ?_, ?_, ?_, ?_, ?_, ?_, ?_, ?_, ?_, ?_, ?_, ?_, ?_, ?_⟩
  · refine ⟨((gC 51 1 rfl rfl).trans s511).trans e17.symm, by rw [e17]; exact bd0 700 (by decide), fun i hi => ?_⟩
    rw [e17] at hi; exact absurd hi (Nat.not_lt_zero i)
  · show M2 51 2 = M2 107 26
    exact ((gC 51 2 rfl rfl).trans s512).trans ((f2 107 26 rfl).trans x26).symm
  · refine ⟨((gC 53 0 rfl rfl).trans s0).trans n0.symm, ((gC 53 6 rfl rfl).trans s6).trans n1.symm, ((gC 53 8 rfl rfl).trans s8).trans n2.symm, ((gC 53 11 rfl rfl).trans s11).trans n3.symm, ((gC 53 16 rfl rfl).trans s16).trans n4.symm, ?_, ?_, ?_, ?_, ?_⟩
    · rw [n0]; exact bd_nq (by omega) (by omega) (by omega)
    · rw [n1]; exact bd_nq (by omega) (by omega) (by omega)
    · rw [n2]; exact bd_nq (by omega) (by omega) (by omega)
    · rw [n3]; exact bd_nq (by omega) (by omega) (by omega)
    · rw [n4]; exact bd_nq (by omega) (by omega) (by omega)
  · intro i hi
    rw [etw] at hi
    obtain ⟨a, b, c, d, b1, b2, b3, b4, b5, e1, e2, e3, e4, e5, e6, e7, e8⟩ := t1 i hi
    obtain ⟨x1, x2, x3, x4⟩ := s54 i (by omega)
    obtain ⟨y1, y2, y3, y4⟩ := n10 i (by omega)
    have u1 := y1.trans e2
    have u2 := y2.trans e4
    have u3 := y3.trans e6
    have u4 := y4.trans e8
    refine ⟨((gC 54 i rfl rfl).trans (x1.trans e1)).trans u1.symm, ?_, ((gC 55 i rfl rfl).trans (x2.trans e3)).trans u2.symm, ?_, ((gC 56 i rfl rfl).trans (x3.trans e5)).trans u3.symm, ?_, ((gC 57 i rfl rfl).trans (x4.trans e7)).trans u4.symm, ?_, ?_⟩
    · rw [u1]; exact bd_nq (by omega) (by omega) (by omega)
    · rw [u2]; exact bd_nq (by omega) (by omega) (by omega)
    · rw [u3]; exact bd_nq (by omega) (by omega) (by omega)
    · rw [u4]; exact bd_nq (by omega) (by omega) (by omega)
    · rw [u1, u2]
      intro z
      have z0 : a = 0 := (nI_eq (b := 0) (by omega) (by decide)).mp z
      rw [b5 z0]
      rfl
  · intro i hi
    rcases t2 i hi with ⟨e1, e2⟩ | ⟨d, d1, d2, e1, e2, e3, e4, e5⟩
    · exact Or.inl ⟨(gC 58 i rfl rfl).trans ((s58 i hi).trans e1), (n14 i hi).trans e2⟩
    · have u1 := (n14 i hi).trans e2
      refine Or.inr ⟨((gC 58 i rfl rfl).trans ((s58 i hi).trans e1)).trans u1.symm, ?_, ?_, ?_, e5⟩
      · rw [u1]; exact bd_nq (by omega) (by omega) (by omega)
      · rw [etw]; exact e3
      · rw [etw]; exact e4
  · intro i hi
    rw [etg] at hi
    obtain ⟨s, h, b1, b2, e1, e2, e3, e4⟩ := t4 i hi
    obtain ⟨x1, x2⟩ := s60 i (by omega)
    obtain ⟨y1, y2⟩ := n16 i (by omega)
    have u1 := y1.trans e2
    have u2 := y2.trans e4
    refine ⟨((gC 60 i rfl rfl).trans (x1.trans e1)).trans u1.symm, ?_, ((gC 61 i rfl rfl).trans (x2.trans e3)).trans u2.symm, ?_, ?_⟩
    · rw [u1]; exact bd_nq (by omega) (by omega) (by omega)
    · rw [u2, nI_toInt (by omega)]; omega
    · rw [u2, nI_clamp (by omega), etk]; exact b2
  · intro i hi
    rw [etp] at hi
    obtain ⟨c, m, b1, b2, b3, b4, e1, e2, e3, e4, e5⟩ := t5 i hi
    obtain ⟨x1, x2⟩ := s62 i (by omega)
    obtain ⟨y1, y2⟩ := n18 i (by omega)
    have u1 := y1.trans e2
    have u2 := y2.trans e4
    refine ⟨((gC 62 i rfl rfl).trans (x1.trans e1)).trans u1.symm, ?_, ((gC 63 i rfl rfl).trans (x2.trans e3)).trans u2.symm, ?_, fun j hj => ?_⟩
    · rw [u1]; exact bd_nq (by omega) (by omega) (by omega)
    · rw [u2]; exact bd_nq (by omega) (by omega) (by omega)
    · rw [u2, nI_clamp (by omega)] at hj
      obtain ⟨s, v1, v2, v3⟩ := e5 j hj
      rw [Nat.add_assoc] at v3
      have u3 := (n19 (4 * i + j) (by omega)).trans v3
      refine ⟨((gC 64 _ rfl rfl).trans ((s64 _ (by omega)).trans v2)).trans u3.symm, ?_⟩
      rw [u3]; exact bd_nq (by omega) (by omega) (by omega)
  · intro _ a ha b hb
    have y := n21 (20 * a + b) (by omega)
    rw [← Nat.add_assoc] at y
    have x := (gC 65 (20 * a + b) rfl rfl).trans (s65 _ (by omega))
    rcases t6 a ha b hb with ⟨e1, e2, e3⟩ | ⟨e1, e2, e3⟩ | ⟨e1, s, e2, e3, e4⟩
    · exact Or.inl ⟨e1, x.trans e2, y.trans e3⟩
    · refine Or.inr ⟨e1, (x.trans e2).trans (y.trans e3).symm, ?_⟩
      rw [y.trans e3]; exact ⟨by decide, by decide⟩
    · refine Or.inr ⟨e1, (x.trans e3).trans (y.trans e4).symm, ?_⟩
      rw [y.trans e4]; exact bd_nq (by omega) (by omega) (by omega)
  · exact ⟨((gC 87 2 rfl rfl).trans s872).trans n29.symm, by rw [n29]; exact bd0 _ (by omega)⟩
  · exact ⟨((gC 87 3 rfl rfl).trans s873).trans n33.symm, by rw [n33]; exact zz, fun h => by rw [n33] at h; exact absurd h o10⟩
  · constructor
    · intro t ht
      rw [etk] at ht
      obtain ⟨h, b1, e1, e2⟩ := t3 t ht
      obtain ⟨x1, x2⟩ := s88 t (by omega)
      obtain ⟨y1, y2⟩ := n24 t (by omega)
      rw [if_pos ht] at x1 y1
      have u1 := y1.trans e2
      refine ⟨((gC 88 t rfl rfl).trans (x1.trans e1)).trans u1.symm, ?_, ?_, ((gC 89 t rfl rfl).trans x2).trans y2.symm, ?_⟩
      · rw [u1, nI_toInt (by omega)]; omega
      · rw [u1, nI_clamp (by omega), etw]; exact b1
      · rw [y2]; exact bd0 _ (by omega)
    · intro t ht h5
      rw [etk] at ht
      obtain ⟨x1, x2⟩ := s88 t h5
      rw [if_neg (by omega)] at x1
      exact (gC 88 t rfl rfl).trans x1
  · exact ⟨((gC 87 5 rfl rfl).trans s875).trans n32.symm, by rw [n32]; exact bd0 4 (by decide), fun n hn => by omega, fun n hn => by omega⟩
  · intro i hi
    rw [gC 93 i rfl rfl, f93 i, gC 122 i rfl rfl, fr 122 i rfl]
    exact hI.j_stat i hi
  · exact ⟨((gC 103 7 rfl rfl).trans s103).trans n53.symm, by rw [n53]; exact zz, fun h => by rw [n53] at h; exact absurd h o10⟩
  · exact ((hI.j_st1.fr (by decide) fr).fr (by decide) fm).fr (by decide) f2
  · exact ((hI.j_st2.fr (by decide) fr).fr (by decide) fm).fr (by decide) f2
  · exact ⟨((gC 51 10 rfl rfl).trans s510).trans n54.symm, by rw [n54]; exact zz, fun h => by rw [n54] at h; exact absurd h o10⟩
  · refine ⟨((gC 101 2 rfl rfl).trans s101).trans n31.symm, by rw [n31]; exact bd0 100 (by decide), ?_, fun i hi => ?_⟩
    · rw [gC 101 1 rfl rfl, fr 101 1 rfl]
      exact hI.j_past.2.2.1
    · unfold un at hi
      rw [n31] at hi; exact absurd hi (Nat.not_lt_zero i)
  · intro _
    have hWb : bndq (2 ^ 5 * 10) (Wq (D0q (Tcq C)) 5) := Wq_b (D0_b c1) 5 (by decide)
    have hW1 : ∀ a, a < 5 → ∀ b, b < 5 → Wq (D0q (Tcq C)) 5 a b = 1000000 ∨ Wq (D0q (Tcq C)) 5 a b < 320 := hWb
    have ewd : ∀ a, a < 5 → ∀ b, b < 5 → wd M2 a b = Wq (D0q (Tcq C)) 5 a b := by
      intro a ha b hb
      unfold wd
      rw [n26 a ha b hb]
      rcases hW1 a ha b hb with z | z
      · exact nI_clamp (by omega)
      · exact nI_clamp (by omega)
    have etr : ∀ a, a < 5 → ∀ b, b < 5 → tr M2 a b = Tcq C a b := by
      intro a ha b hb
      have hT := c1 a ha b hb
      unfold tr
      rw [n14 _ (by omega)]
      rcases c3 a ha b hb with ⟨v1, v2, v3⟩ | ⟨v1, v2, v3⟩
      · rw [v3, v1]; rfl
      · rw [v3]; exact nI_clamp (by omega)
    refine ⟨fun a ha b hb => ?_, fun a ha => ?_, fun a ha b hb c hc => ?_, fun a ha b hb hab hlt => ?_⟩
    · rw [ewd a ha b hb]
      refine ⟨n26 a ha b hb, ?_⟩
      have x := (gC 81 (5 * a + b) rfl rfl).trans (s81 a ha b hb)
      unfold encq at x
      rcases hW1 a ha b hb with z | z
      · rw [if_pos z] at x
        exact Or.inl ⟨z, x⟩
      · rw [if_neg (by omega)] at x
        exact Or.inr ⟨by omega, x⟩
    · rw [ewd a ha a ha]
      exact Wq_d D0_d 5 a ha
    · rw [ewd a ha b hb, ewd a ha c hc, ewd c hc b hb]
      exact Wq_t D0_d 5 (by decide) c hc a b
    · rw [ewd a ha b hb] at hlt ⊢
      obtain ⟨x, v1, v2, ⟨v3, v4⟩, v5⟩ := n27 a ha b hb (Or.inl ha) hab (by omega)
      refine ⟨x, v1, v2, ?_, ?_, fun y hy => ?_⟩
      · rw [etr a ha x v1]; exact v3
      · rw [etr a ha x v1, ewd x v1 b hb]; exact v4
      · rw [etr a ha y (by omega), ewd y (by omega) b hb]
        exact v5 y hy
  · intro i hi t ht s hs
    rw [etp] at hi
    rw [etw] at ht
    left
    exact (gC 84 _ rfl rfl).trans (s84 _ (by omega))
theorem told_s {k n : Nat} {M Mc : zMM} (hI : z_I k M) (hn : nI n ≤ M 107 17) (hn7 : n < 2 ^ 31) (hr : f_X3_read_79 (nI n) M = some ((0 : Int32), Mc)) : ∃ (o : Int32 ⊕ Nat) (M1 : zMM) (b : Int32) (M2 : zMM), f_X7_told_51 (nI n) M = some (o, M1) ∧ f_X8_told_107 (nI n) M1 = some (b, M2) ∧ z_ag o b (M2 107 1) none (some 1) ∧ z_I (k + 1) M2 := by
  obtain ⟨t1, ⟨m, t2, t3, t4⟩, t5, t6⟩ := tape_B hI.j_tape hn hn7
  have hs := st_of hI.j_st2
  have fc := R_X3_read_79 hr
  have key : ∀ M', mB (fun i => (M 123 i).toNatClampNeg) n M' → stq M' → (∃ m, M' 107 17 = nI m ∧ n ≤ m ∧ m ≤ 700) → ∃ e b t r w kk g p q C D Mm, f_X8_told_107 (nI n) M' = f_X8_told_107_p159 Mm ∧ GD (fun i => (M 123 i).toNatClampNeg) n e b t r C D Mc Mm ∧ DR w kk g p q C D ∧ z_fr w_rd M' Mm ∧ Mm 107 1 = 0 ∧ Mm 107 17 = 0 ∧ Mm 107 26 = -1 := by
    intro M' h1 h2 h3
    rcases T_read (M := M) (M' := M') t1 t5 h1 hs h2 h3 with ⟨e, b, t, r, w, kk, g, p, q, C, D, Mc', Mm, r1, r2, r3, r4, r5, r6, r7, r8, r9⟩ | ⟨f, pp, Mc', Mm, r1, r2, r3, -⟩
    · have hMc := (sm_eq (hr.symm.trans r1)).2
      rw [hMc] at r3
      exact ⟨e, b, t, r, w, kk, g, p, q, C, D, Mm, r2, r3, r4, r5, r7, r8, r9⟩
    · exfalso
      exact r3.2.2.2.2.1 (sm_eq (hr.symm.trans r1)).1
  obtain ⟨e, b, t, r, w, kk, g, p, q, C, D, Mm, -, h3, h4, -⟩ := key M t6 hs ⟨m, t2, t3, t4⟩
  obtain ⟨M1, c1, -⟩ := c_succ h3 h4
  have e1 : f_X7_told_51 (nI n) M = some (.inl 0, M1) := by
    unfold f_X7_told_51
    rw [if_neg (nI_pos hn7), hI.j_tape.1, if_pos hn, hr, z_bi_s]
    unfold f_X3_faultPlace_79
    rw [z_bi_s, if_pos rfl]
    exact c1
  have fr := R_X7_told_51 e1
  have f93 : ∀ i, M1 93 i = M 93 i := fun i => (succ_fr c1 93 i rfl).trans (fc 93 i rfl)
  obtain ⟨e', b', t', r', w', kk', g', p', q', C', D', Mm', r2, r3, r4, r5, r7, r8, r9⟩ := key M1 (mB_fr t6 (fun b => fr 123 b rfl)) (stq_fr hs (out_fr (by decide) fr)) ⟨m, (fr 107 17 rfl).trans t2, t3, t4⟩
  obtain ⟨M1', c1', sc⟩ := c_succ r3 r4
  have e11 : M1' = M1 := congrArg Prod.snd (Option.some.inj (c1'.symm.trans c1))
  rw [e11] at sc
  obtain ⟨M2, m1, mf, sm⟩ := m_succ r3 r4
  exact ⟨.inl 0, M1, 0, M2, e1, r2.trans m1, ⟨(mf 107 1 rfl).trans r7, rfl⟩, I_succ hI r4 fr f93 r5 mf r8 r9 sc sm⟩
theorem B_told : z_op_told := by
  intro k M a1 hk hI
  by_cases h : a1 < 0 ∨ ¬ a1 ≤ M 107 17
  · exact told_x hI h
  · have h0 : ¬ a1 < 0 := fun z => h (Or.inl z)
    have h1 : a1 ≤ M 107 17 := Classical.byContradiction (fun z => h (Or.inr z))
    obtain ⟨n, hn7, rfl⟩ := nI_of h0
    obtain ⟨t1, t2, t5, t6⟩ := tape_B hI.j_tape h1 hn7
    have hs := st_of hI.j_st2
    rcases T_read (M := M) (M' := M) t1 t5 t6 hs hs t2 with ⟨e, b, t, r, w, kk, g, p, q, C, D, Mc, Mm, r1, -⟩ | ⟨f, pp, Mc, Mm, r1, r2, r3, -⟩
    · exact told_s hI h1 hn7 r1
    · exact told_f hI h1 hn7 r3.2.2.2.2.1 r1
