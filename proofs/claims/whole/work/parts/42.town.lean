/-! ===== town, trunk ===== -/
theorem w1_sc {M : zMM} {v : Int32} : z_fr w_sc M (z_up M 107 1 v) := z_fr.refl.up rfl
theorem w1_sk {M : zMM} {v : Int32} : z_fr w_sk M (z_up M 107 1 v) := z_fr.refl.up rfl
theorem tg_le {M : zMM} (h : j_cnt M) : tg M ≤ 10 := by
  obtain ⟨m, hm, e1, e2, e3⟩ := h.2.2.2.2.2.2.2.1.nI
  unfold tg; rw [e2]; omega
theorem tp_le {M : zMM} (h : j_cnt M) : tp M ≤ 4 := by
  obtain ⟨m, hm, e1, e2, e3⟩ := h.2.2.2.2.2.2.2.2.1.nI
  unfold tp; rw [e2]; omega
theorem B_town : z_op_town := by
  intro k M a1 a2 hk hI
  have q := hI.j_cnt.1
  have bt := hI.j_cnt.2.2.2.2.2.1
  have h5 := tw_le hI.j_cnt
  have hM : z_I (k + 1) (z_up M 107 1 (0 : Int32)) := hI.code (z_fr.refl.up rfl)
  have hfail : f_X7_town_51 a1 a2 M = some (.inr 0, M) → f_X8_town_107 a1 a2 M = some ((0 : Int32), z_up (z_up M 107 1 (0 : Int32)) 107 1 (1 : Int32)) → ∃ (o : Int32 ⊕ Nat) (M1 : zMM) (b : Int32) (M2 : zMM), f_X7_town_51 a1 a2 M = some (o, M1) ∧ f_X8_town_107 a1 a2 M1 = some (b, M2) ∧ z_ag o b (M2 107 1) (some 1) none ∧ z_I (k + 1) M2 :=
    fun h1 h3 => ⟨.inr 0, M, 0, _, h1, h3, ⟨1, rfl, rfl, by decide⟩, hI.code ((z_fr.refl.up rfl).up rfl)⟩
  have hM0 : a1 < 0 ∨ (¬ a1 < 0 ∧ ¬ a1 < M 109 0) → ∃ (o : Int32 ⊕ Nat) (M1 : zMM) (b : Int32) (M2 : zMM), f_X7_town_51 a1 a2 M = some (o, M1) ∧ f_X8_town_107 a1 a2 M1 = some (b, M2) ∧ z_ag o b (M2 107 1) (some 1) none ∧ z_I (k + 1) M2 := by
    intro h
    refine hfail ?_ ?_
    · unfold f_X7_town_51; rw [e_pTown0 q h]; rfl
    · unfold f_X8_town_107; rw [e_mTown0 (M := z_up M 107 1 (0 : Int32)) bt h]; rfl
  rcases z_ix a1 bt with h | h | ⟨n, hn, rfl, h0, h1⟩
  · exact hM0 (Or.inl h)
  · exact hM0 (Or.inr h)
  have hn' : n < tw M := hn
  have hn5 : n < 5 := by omega
  obtain ⟨t1, t2, t3, t4, t5, t6, t7, t8, t9⟩ := hI.j_town n hn'
  have eC : ∀ r, (z_bt (some (.inl (), M)) fun (v2 : Unit) M3 => if a2 = (0 : Int32) then some (.inl (z_at M3 54 5 (nI n)), M3) else if a2 = (1 : Int32) then some (.inl (z_at M3 55 5 (nI n)), M3) else if a2 = (2 : Int32) then some (.inl (z_at M3 56 5 (nI n)), M3) else if a2 = (3 : Int32) then some (.inl (z_at M3 57 5 (nI n)), M3) else if a2 = (4 : Int32) then z_bi (f_X4_trunksIn_87 (nI n) M3) fun v11 M12 => some (.inl v11, M12) else if a2 = (5 : Int32) then z_bi (f_X4_trunksIn_87 (nI n) M3) fun v15 M16 => z_bi (f_X5_thingsOf_53 v15 M16) fun v18 M19 => some (.inl v18, M19) else some (.inr 0, M3)) = r → f_X7_town_51 (nI n) a2 M = r := by
    intro r hr
    unfold f_X7_town_51
    rw [e_pTown1 q h0 h1]
    exact hr
  have ib : z_ib (nI n) 10 = true := z_ib_n (by decide) (by omega)
  have eM : ∀ r, (if a2 = (0 : Int32) then some ((M 110 n), z_up M 107 1 (0 : Int32)) else if a2 = (1 : Int32) then some ((M 111 n), z_up M 107 1 (0 : Int32)) else if a2 = (2 : Int32) then some ((M 112 n), z_up M 107 1 (0 : Int32)) else if a2 = (3 : Int32) then some ((M 113 n), z_up M 107 1 (0 : Int32)) else if a2 = (4 : Int32) then z_bi (f_X8_trunksAt_107 (nI n) (z_up M 107 1 (0 : Int32))) fun v18 M19 => some (v18, M19) else if a2 = (5 : Int32) then z_bi (f_X8_trunksAt_107 (nI n) (z_up M 107 1 (0 : Int32))) fun v22 M23 => z_bi (f_X8_thingsOf_107 v22 M23) fun v25 M26 => some (v25, M26) else some ((0 : Int32), z_up (z_up M 107 1 (0 : Int32)) 107 1 (1 : Int32))) = r → f_X8_town_107 (nI n) a2 M = r := by
    intro r hr
    unfold f_X8_town_107
    rw [e_mTown1 (M := z_up M 107 1 (0 : Int32)) bt h0 h1, z_bi_s, if_neg (by decide)]
    simp only [if_pos ib, nI_clamp (show n < 2 ^ 31 by omega)]
    exact hr
  by_cases g0 : a2 = (0 : Int32)
  · refine ⟨.inl (M 110 n), M, M 110 n, z_up M 107 1 (0 : Int32), eC _ ?_, eM _ (if_pos g0), ⟨rfl, rfl⟩, hM⟩
    rw [z_bt_l, if_pos g0, z_at_nI (by decide) hn5, t1]
  by_cases g1 : a2 = (1 : Int32)
  · refine ⟨.inl (M 111 n), M, M 111 n, z_up M 107 1 (0 : Int32), eC _ ?_, eM _ (by rw [if_neg g0, if_pos g1]), ⟨rfl, rfl⟩, hM⟩
    rw [z_bt_l, if_neg g0, if_pos g1, z_at_nI (by decide) hn5, t3]
  by_cases g2 : a2 = (2 : Int32)
  · refine ⟨.inl (M 112 n), M, M 112 n, z_up M 107 1 (0 : Int32), eC _ ?_, eM _ (by rw [if_neg g0, if_neg g1, if_pos g2]), ⟨rfl, rfl⟩, hM⟩
    rw [z_bt_l, if_neg g0, if_neg g1, if_pos g2, z_at_nI (by decide) hn5, t5]
  by_cases g3 : a2 = (3 : Int32)
  · refine ⟨.inl (M 113 n), M, M 113 n, z_up M 107 1 (0 : Int32), eC _ ?_, eM _ (by rw [if_neg g0, if_neg g1, if_neg g2, if_pos g3]), ⟨rfl, rfl⟩, hM⟩
    rw [z_bt_l, if_neg g0, if_neg g1, if_neg g2, if_pos g3, z_at_nI (by decide) hn5, t7]
  obtain ⟨s, hs, s1, s2, -⟩ := e_trunks hI (w1_sk (v := (0 : Int32))) hn5
  by_cases g4 : a2 = (4 : Int32)
  · refine ⟨.inl (nI s), M, nI s, z_up M 107 1 (0 : Int32), eC _ ?_, eM _ (by rw [if_neg g0, if_neg g1, if_neg g2, if_neg g3, if_pos g4, s2, z_bi_s]), ⟨rfl, rfl⟩, hM⟩
    rw [z_bt_l, if_neg g0, if_neg g1, if_neg g2, if_neg g3, if_pos g4, s1, z_bi_s]
  obtain ⟨y, y1, y2, -⟩ := e_things hI (hI.sc w1_sc) (w1_sk (v := (0 : Int32))) s
  by_cases g5 : a2 = (5 : Int32)
  · refine ⟨.inl y, M, y, z_up M 107 1 (0 : Int32), eC _ ?_, eM _ (by rw [if_neg g0, if_neg g1, if_neg g2, if_neg g3, if_neg g4, if_pos g5, s2, z_bi_s, y2, z_bi_s]), ⟨rfl, rfl⟩, hM⟩
    rw [z_bt_l, if_neg g0, if_neg g1, if_neg g2, if_neg g3, if_neg g4, if_pos g5, s1, z_bi_s, y1, z_bi_s]
  · refine hfail (eC _ ?_) (eM _ (by rw [if_neg g0, if_neg g1, if_neg g2, if_neg g3, if_neg g4, if_neg g5]))
    rw [z_bt_l, if_neg g0, if_neg g1, if_neg g2, if_neg g3, if_neg g4, if_neg g5]
theorem one_sl : ∀ n : Nat, n < 5 → (1 : Int32) <<< (nI n &&& 31) = nI (2 ^ n) := by decide +kernel
theorem B_trunk : z_op_trunk := by
  intro k M a1 a2 hk hI
  have q := hI.j_cnt.2.1
  have bt := hI.j_cnt.2.2.2.2.2.2.1
  have h5 := tk_le hI.j_cnt
  have hM : z_I (k + 1) (z_up M 107 1 (0 : Int32)) := hI.code (z_fr.refl.up rfl)
  have hfail : f_X7_trunk_51 a1 a2 M = some (.inr 0, M) → f_X8_trunk_107 a1 a2 M = some ((0 : Int32), z_up (z_up M 107 1 (0 : Int32)) 107 1 (1 : Int32)) → ∃ (o : Int32 ⊕ Nat) (M1 : zMM) (b : Int32) (M2 : zMM), f_X7_trunk_51 a1 a2 M = some (o, M1) ∧ f_X8_trunk_107 a1 a2 M1 = some (b, M2) ∧ z_ag o b (M2 107 1) (some 1) none ∧ z_I (k + 1) M2 :=
    fun h1 h3 => ⟨.inr 0, M, 0, _, h1, h3, ⟨1, rfl, rfl, by decide⟩, hI.code ((z_fr.refl.up rfl).up rfl)⟩
  have hM0 : a1 < 0 ∨ (¬ a1 < 0 ∧ ¬ a1 < M 109 1) → ∃ (o : Int32 ⊕ Nat) (M1 : zMM) (b : Int32) (M2 : zMM), f_X7_trunk_51 a1 a2 M = some (o, M1) ∧ f_X8_trunk_107 a1 a2 M1 = some (b, M2) ∧ z_ag o b (M2 107 1) (some 1) none ∧ z_I (k + 1) M2 := by
    intro h
    refine hfail ?_ ?_
    · unfold f_X7_trunk_51; rw [e_pTrunk0 q h]; rfl
    · unfold f_X8_trunk_107; rw [e_mTrunk0 (M := z_up M 107 1 (0 : Int32)) bt h]; rfl
  rcases z_ix a1 bt with h | h | ⟨n, hn, rfl, h0, h1⟩
  · exact hM0 (Or.inl h)
  · exact hM0 (Or.inr h)
  have hn' : n < tk M := hn
  have hn5 : n < 5 := by omega
  obtain ⟨t1, -, -, t4, -⟩ := hI.j_place.1 n hn'
  have eC : ∀ r, (if a2 = (0 : Int32) then (z_bi (f_X4_isThere_87 (nI n) M) fun v7 M8 => if v7 = 0 then some (.inl (-1 : Int32), M8) else some (.inl (z_at M8 88 5 (nI n)), M8)) else if a2 = (1 : Int32) then some (.inl (z_at M 88 5 (nI n)), M) else if a2 = (2 : Int32) then some (.inl (z_at M 89 5 (nI n)), M) else if a2 = (3 : Int32) then z_bi (f_X5_thingsOf_53 ((1 : Int32) <<< (nI n &&& 31)) M) fun v14 M15 => some (.inl v14, M15) else some (.inr 0, M)) = r → f_X7_trunk_51 (nI n) a2 M = r := by
    intro r hr
    unfold f_X7_trunk_51
    rw [e_pTrunk1 q h0 h1]
    exact hr
  have ib : z_ib (nI n) 5 = true := z_ib_n (by decide) (by omega)
  have eM : ∀ r, (if a2 = (0 : Int32) then (if M 107 29 < M 125 n then some ((-1 : Int32), z_up M 107 1 (0 : Int32)) else some (M 124 n, z_up M 107 1 (0 : Int32))) else if a2 = (1 : Int32) then some ((M 124 n), z_up M 107 1 (0 : Int32)) else if a2 = (2 : Int32) then some ((M 125 n), z_up M 107 1 (0 : Int32)) else if a2 = (3 : Int32) then z_bi (f_X8_thingsOf_107 ((1 : Int32) <<< (nI n &&& 31)) (z_up M 107 1 (0 : Int32))) fun v18 M19 => some (v18, M19) else some ((0 : Int32), z_up (z_up M 107 1 (0 : Int32)) 107 1 (1 : Int32))) = r → f_X8_trunk_107 (nI n) a2 M = r := by
    intro r hr
    unfold f_X8_trunk_107
    rw [e_mTrunk1 (M := z_up M 107 1 (0 : Int32)) bt h0 h1, z_bi_s, if_neg (by decide)]
    simp only [if_pos ib, nI_clamp (show n < 2 ^ 31 by omega)]
    exact hr
  have eT : f_X4_isThere_87 (nI n) M = if M 107 29 < M 125 n then some ((0 : Int32), M) else some ((1 : Int32), M) := by
    unfold f_X4_isThere_87
    rw [z_at_nI (by decide) hn5, t4, hI.j_day.1]
  by_cases g0 : a2 = (0 : Int32)
  · by_cases hd : M 107 29 < M 125 n
    · refine ⟨.inl (-1), M, -1, z_up M 107 1 (0 : Int32), eC _ ?_, eM _ (by rw [if_pos g0, if_pos hd]), ⟨rfl, rfl⟩, hM⟩
      rw [if_pos g0, eT, if_pos hd, z_bi_s, if_pos rfl]
    · refine ⟨.inl (M 124 n), M, M 124 n, z_up M 107 1 (0 : Int32), eC _ ?_, eM _ (by rw [if_pos g0, if_neg hd]), ⟨rfl, rfl⟩, hM⟩
      rw [if_pos g0, eT, if_neg hd, z_bi_s, if_neg (by decide), z_at_nI (by decide) hn5, t1]
  by_cases g1 : a2 = (1 : Int32)
  · refine ⟨.inl (M 124 n), M, M 124 n, z_up M 107 1 (0 : Int32), eC _ ?_, eM _ (by rw [if_neg g0, if_pos g1]), ⟨rfl, rfl⟩, hM⟩
    rw [if_neg g0, if_pos g1, z_at_nI (by decide) hn5, t1]
  by_cases g2 : a2 = (2 : Int32)
  · refine ⟨.inl (M 125 n), M, M 125 n, z_up M 107 1 (0 : Int32), eC _ ?_, eM _ (by rw [if_neg g0, if_neg g1, if_pos g2]), ⟨rfl, rfl⟩, hM⟩
    rw [if_neg g0, if_neg g1, if_pos g2, z_at_nI (by decide) hn5, t4]
  obtain ⟨y, y1, y2, -⟩ := e_things hI (hI.sc w1_sc) (w1_sk (v := (0 : Int32))) (2 ^ n)
  by_cases g3 : a2 = (3 : Int32)
  · refine ⟨.inl y, M, y, z_up M 107 1 (0 : Int32), eC _ ?_, eM _ (by rw [if_neg g0, if_neg g1, if_neg g2, if_pos g3, one_sl n hn5, y2, z_bi_s]), ⟨rfl, rfl⟩, hM⟩
    rw [if_neg g0, if_neg g1, if_neg g2, if_pos g3, one_sl n hn5, y1, z_bi_s]
  · refine hfail (eC _ ?_) (eM _ (by rw [if_neg g0, if_neg g1, if_neg g2, if_neg g3]))
    rw [if_neg g0, if_neg g1, if_neg g2, if_neg g3]
theorem e_way {k : Nat} {M : zMM} (hI : z_I k M) {a b : Nat} (ha : a < tw M) (hb : b < tw M) : a < 5 ∧ b < 5 ∧ M 126 (5 * a + b) = nI (wd M a b) ∧ ((wd M a b = 1000000 ∧ M 81 (5 * a + b) = -1) ∨ (wd M a b < 1000 ∧ M 81 (5 * a + b) = nI (wd M a b))) := by
  have h5 := tw_le hI.j_cnt
  exact ⟨by omega, by omega, (hI.j_ways (by omega)).1 a (by omega) b (by omega)⟩
theorem nI_51 {a b : Nat} : nI a * (5 : Int32) + nI b = nI (5 * a + b) := by
  rw [show nI a * (5 : Int32) = nI (a * 5) from nI_mul a 5, nI_add, Nat.mul_comm]
theorem nI_15 {a b : Nat} : (5 : Int32) * nI a + nI b = nI (5 * a + b) := by
  rw [show (5 : Int32) * nI a = nI (5 * a) from nI_mul 5 a, nI_add]
theorem e_span {M : zMM} {a b : Nat} (ha : a < 5) (hb : b < 5) : f_X6_span_80 (nI a) (nI b) M = some (M 81 (5 * a + b), M) := by
  unfold f_X6_span_80
  rw [nI_51, z_at_nI (by decide) (by omega)]
theorem e_hasWay {M : zMM} {a b : Nat} (ha : a < 5) (hb : b < 5) (h : M 126 (5 * a + b) = nI (wd M a b)) (h2 : wd M a b ≤ 1000000) : f_X8_hasWay_107 (nI a) (nI b) M = some (if wd M a b = 1000000 then (0 : Int32) else 1, M) := by
  unfold f_X8_hasWay_107
  rw [nI_15, if_pos (z_ib_n (by decide) (by omega)), nI_clamp (by omega), h]
  by_cases g : wd M a b = 1000000
  · rw [if_pos g, g]; rfl
  · rw [if_neg g, if_neg (show ¬ (1000000 : Int32) ≤ nI (wd M a b) from nI_ge (b := 1000000) (by omega) (by decide))]
theorem wd_fr {M M' : zMM} (hf : z_fr w_sk M M') (a b : Nat) : wd M' a b = wd M a b := by
  unfold wd; rw [hf 126 _ rfl]
theorem B_way : z_op_way := by
  intro k M a1 a2 hk hI
  have q := hI.j_cnt.1
  have bt := hI.j_cnt.2.2.2.2.2.1
  have hM : z_I (k + 1) (z_up M 107 1 (0 : Int32)) := hI.code (z_fr.refl.up rfl)
  have hfail : f_X7_way_51 a1 a2 M = some (.inr 0, M) → f_X8_way_107 a1 a2 M = some ((0 : Int32), z_up (z_up M 107 1 (0 : Int32)) 107 1 (1 : Int32)) → ∃ (o : Int32 ⊕ Nat) (M1 : zMM) (b : Int32) (M2 : zMM), f_X7_way_51 a1 a2 M = some (o, M1) ∧ f_X8_way_107 a1 a2 M1 = some (b, M2) ∧ z_ag o b (M2 107 1) (some 1) none ∧ z_I (k + 1) M2 :=
    fun h1 h3 => ⟨.inr 0, M, 0, _, h1, h3, ⟨1, rfl, rfl, by decide⟩, hI.code ((z_fr.refl.up rfl).up rfl)⟩
  have hM0 : a1 < 0 ∨ (¬ a1 < 0 ∧ ¬ a1 < M 109 0) → ∃ (o : Int32 ⊕ Nat) (M1 : zMM) (b : Int32) (M2 : zMM), f_X7_way_51 a1 a2 M = some (o, M1) ∧ f_X8_way_107 a1 a2 M1 = some (b, M2) ∧ z_ag o b (M2 107 1) (some 1) none ∧ z_I (k + 1) M2 := by
    intro h
    refine hfail ?_ ?_
    · unfold f_X7_way_51; rw [e_pTown0 q h]; rfl
    · unfold f_X8_way_107; rw [e_mTown0 (M := z_up M 107 1 (0 : Int32)) bt h]; rfl
  rcases z_ix a1 bt with h | h | ⟨n, hn, rfl, h0, h1⟩
  · exact hM0 (Or.inl h)
  · exact hM0 (Or.inr h)
  have hM1 : a2 < 0 ∨ (¬ a2 < 0 ∧ ¬ a2 < M 109 0) → ∃ (o : Int32 ⊕ Nat) (M1 : zMM) (b : Int32) (M2 : zMM), f_X7_way_51 (nI n) a2 M = some (o, M1) ∧ f_X8_way_107 (nI n) a2 M1 = some (b, M2) ∧ z_ag o b (M2 107 1) (some 1) none ∧ z_I (k + 1) M2 := by
    intro h
    refine hfail ?_ ?_
    · unfold f_X7_way_51; rw [e_pTown1 q h0 h1, z_bt_l, e_pTown0 q h]; rfl
    · unfold f_X8_way_107; rw [e_mTown1 (M := z_up M 107 1 (0 : Int32)) bt h0 h1, z_bi_s, if_neg (by decide), e_mTown0 (M := z_up M 107 1 (0 : Int32)) bt h]; rfl
  rcases z_ix a2 bt with h | h | ⟨m, hm, rfl, h2, h3⟩
  · exact hM1 (Or.inl h)
  · exact hM1 (Or.inr h)
  obtain ⟨hn5, hm5, w1, w2⟩ := e_way hI (a := n) (b := m) hn hm
  have hw6 : wd M n m ≤ 1000000 := by omega
  have eW := wd_fr (w1_sk (M := M) (v := (0 : Int32))) n m
  refine ⟨.inl (M 81 (5 * n + m)), M, M 81 (5 * n + m), z_up M 107 1 (0 : Int32), ?_, ?_, ⟨rfl, rfl⟩, hM⟩
  · unfold f_X7_way_51
    rw [e_pTown1 q h0 h1, z_bt_l, e_pTown1 q h2 h3, z_bt_l, e_span hn5 hm5]
    rfl
  · unfold f_X8_way_107
    rw [e_mTown1 (M := z_up M 107 1 (0 : Int32)) bt h0 h1, z_bi_s, if_neg (by decide), e_mTown1 (M := z_up M 107 1 (0 : Int32)) bt h2 h3, z_bi_s, if_neg (by decide), e_hasWay hn5 hm5 (by rw [eW]; exact w1) (by rw [eW]; exact hw6), z_bi_s, eW]
    rcases w2 with ⟨w2, w3⟩ | ⟨w2, w3⟩
    · rw [if_pos w2, if_pos rfl, w3]
    · rw [if_neg (show ¬ wd M n m = 1000000 by omega), if_neg (by decide), nI_15, if_pos (z_ib_n (by decide) (by omega)), nI_clamp (by omega), w3, ← w1]
      rfl
