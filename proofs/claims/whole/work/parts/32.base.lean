/-! ===== checks, and the small methods ===== -/
theorem z_bi_s {α β : Type} {v : α} {M : zMM} {k : α → zMM → Option β} : z_bi (some (v, M)) k = k v M := rfl
theorem z_bv_s {β : Type} {M : zMM} {k : zMM → Option β} : z_bv (some M) k = k M := rfl
theorem z_bt_l {α β : Type} {v : α} {M : zMM} {k : α → zMM → Option ((β ⊕ Nat) × zMM)} : z_bt (some (.inl v, M)) k = k v M := rfl
theorem z_bt_r {α β : Type} {e : Nat} {M : zMM} {k : α → zMM → Option ((β ⊕ Nat) × zMM)} : z_bt (some (.inr e, M)) k = some (.inr e, M) := rfl
theorem z_I.code {k : Nat} {M M' : zMM} (hI : z_I k M) (hf : z_fr ([(107, 1)], []) M M') : z_I (k + 1) M' :=
  ⟨(hI.j_tape.fr (by decide) hf), (hI.j_fault.fr (by decide) hf), (hI.j_cnt.fr (by decide) hf), (hI.j_town.fr (by decide) hf), (hI.j_train.fr (by decide) hf), (hI.j_thing.fr (by decide) hf), (hI.j_play.fr (by decide) hf), (hI.j_like.fr (by decide) hf), (hI.j_day.fr (by decide) hf).mono, (hI.j_seed.fr (by decide) hf), (hI.j_place.fr (by decide) hf).mono, (hI.j_night.fr (by decide) hf), (hI.j_stat.fr (by decide) hf), (hI.j_plan.fr (by decide) hf), (hI.j_st1.fr (by decide) hf), (hI.j_st2.fr (by decide) hf), (hI.j_img.fr (by decide) hf).mono, (hI.j_past.fr (by decide) hf).mono, (hI.j_ways.fr (by decide) hf), (hI.j_known.fr (by decide) hf)⟩
theorem z_bd.nI {c : Int32} {hi : Int} (hc : z_bd c 0 hi) : ∃ m : Nat, m < 2 ^ 31 ∧ c = nI m ∧ c.toNatClampNeg = m ∧ (m : Int) ≤ hi := by
  have h0 : ¬ c < 0 := by
    rw [Int32.lt_iff_toInt_lt]
    have := hc.1
    show ¬ c.toInt < 0
    omega
  obtain ⟨m, hm, rfl⟩ := nI_of h0
  refine ⟨m, hm, rfl, nI_clamp hm, ?_⟩
  have := hc.2
  rw [nI_toInt hm] at this
  exact this
theorem z_ix (x : Int32) {c : Int32} {hi : Int} (hc : z_bd c 0 hi) : x < 0 ∨ (¬ x < 0 ∧ ¬ x < c) ∨ ∃ n, n < c.toNatClampNeg ∧ x = nI n ∧ ¬ x < 0 ∧ x < c := by
  by_cases h0 : x < 0
  · exact Or.inl h0
  · by_cases h1 : x < c
    · refine Or.inr (Or.inr ?_)
      obtain ⟨n, hn, rfl⟩ := nI_of h0
      obtain ⟨m, hm, rfl, e, -⟩ := hc.nI
      rw [e]
      exact ⟨n, (nI_ltI hn hm).mp h1, rfl, h0, h1⟩
    · exact Or.inr (Or.inl ⟨h0, h1⟩)
theorem z_pred {x c : Int32} {hi : Int} (hc : z_bd c 0 hi) (hh : hi < 2147483648) : (c - (1 : Int32) < x) ↔ ¬ x < c := by
  have h1 := hc.1
  have h2 := hc.2
  rw [Int32.lt_iff_toInt_lt, Int32.lt_iff_toInt_lt, Int32.toInt_sub, show (1 : Int32).toInt = 1 from rfl, Int.bmod_eq_of_le (by omega) (by omega)]
  omega
theorem e_in0 {x c : Int32} {M : zMM} (h : x < 0) : f_X8_isIn x (0 : Int32) (c - (1 : Int32)) M = some ((0 : Int32), M) := if_pos h
theorem e_in1 {x c : Int32} {M : zMM} {hi : Int} (hc : z_bd c 0 hi) (hh : hi < 2147483648) (h0 : ¬ x < 0) (h : ¬ x < c) : f_X8_isIn x (0 : Int32) (c - (1 : Int32)) M = some ((0 : Int32), M) := (if_neg h0).trans (if_pos ((z_pred hc hh).mpr h))
theorem e_in2 {x c : Int32} {M : zMM} {hi : Int} (hc : z_bd c 0 hi) (hh : hi < 2147483648) (h0 : ¬ x < 0) (h : x < c) : f_X8_isIn x (0 : Int32) (c - (1 : Int32)) M = some ((1 : Int32), M) := (if_neg h0).trans (if_neg (fun q => (z_pred hc hh).mp q h))
theorem e_mTown0 {x : Int32} {M : zMM} (hc : z_bd (M 109 0) 0 5) (h : x < 0 ∨ (¬ x < 0 ∧ ¬ x < M 109 0)) : f_X8_isTown_107 x M = some ((0 : Int32), M) := by
  unfold f_X8_isTown_107
  rcases h with h | h
  · rw [e_in0 h]; rfl
  · rw [e_in1 hc (by decide) h.1 h.2]; rfl
theorem e_mTown1 {x : Int32} {M : zMM} (hc : z_bd (M 109 0) 0 5) (h0 : ¬ x < 0) (h : x < M 109 0) : f_X8_isTown_107 x M = some ((1 : Int32), M) := by
  unfold f_X8_isTown_107
  rw [e_in2 hc (by decide) h0 h]
  rfl
theorem e_pTown0 {x : Int32} {M : zMM} (hq : M 53 0 = M 109 0) (h : x < 0 ∨ (¬ x < 0 ∧ ¬ x < M 109 0)) : f_X7_checkTown_51 x M = some (.inr 0, M) := by
  unfold f_X7_checkTown_51
  rw [hq]
  rcases h with h | h
  · exact if_pos h
  · exact (if_neg h.1).trans (if_neg h.2)
theorem e_pTown1 {x : Int32} {M : zMM} (hq : M 53 0 = M 109 0) (h0 : ¬ x < 0) (h : x < M 109 0) : f_X7_checkTown_51 x M = some (.inl (), M) := by
  unfold f_X7_checkTown_51
  rw [hq]
  exact (if_neg h0).trans (if_pos h)
theorem e_mTrunk0 {x : Int32} {M : zMM} (hc : z_bd (M 109 1) 0 5) (h : x < 0 ∨ (¬ x < 0 ∧ ¬ x < M 109 1)) : f_X8_isTrunk_107 x M = some ((0 : Int32), M) := by
  unfold f_X8_isTrunk_107
  rcases h with h | h
  · rw [e_in0 h]; rfl
  · rw [e_in1 hc (by decide) h.1 h.2]; rfl
theorem e_mTrunk1 {x : Int32} {M : zMM} (hc : z_bd (M 109 1) 0 5) (h0 : ¬ x < 0) (h : x < M 109 1) : f_X8_isTrunk_107 x M = some ((1 : Int32), M) := by
  unfold f_X8_isTrunk_107
  rw [e_in2 hc (by decide) h0 h]
  rfl
theorem e_pTrunk0 {x : Int32} {M : zMM} (hq : M 53 6 = M 109 1) (h : x < 0 ∨ (¬ x < 0 ∧ ¬ x < M 109 1)) : f_X7_checkTrunk_51 x M = some (.inr 0, M) := by
  unfold f_X7_checkTrunk_51
  rw [hq]
  rcases h with h | h
  · exact if_pos h
  · exact (if_neg h.1).trans (if_neg h.2)
theorem e_pTrunk1 {x : Int32} {M : zMM} (hq : M 53 6 = M 109 1) (h0 : ¬ x < 0) (h : x < M 109 1) : f_X7_checkTrunk_51 x M = some (.inl (), M) := by
  unfold f_X7_checkTrunk_51
  rw [hq]
  exact (if_neg h0).trans (if_pos h)
theorem e_mPlay0 {x : Int32} {M : zMM} (hc : z_bd (M 109 3) 0 4) (h : x < 0 ∨ (¬ x < 0 ∧ ¬ x < M 109 3)) : f_X8_isPlay_107 x M = some ((0 : Int32), M) := by
  unfold f_X8_isPlay_107
  rcases h with h | h
  · rw [e_in0 h]; rfl
  · rw [e_in1 hc (by decide) h.1 h.2]; rfl
theorem e_mPlay1 {x : Int32} {M : zMM} (hc : z_bd (M 109 3) 0 4) (h0 : ¬ x < 0) (h : x < M 109 3) : f_X8_isPlay_107 x M = some ((1 : Int32), M) := by
  unfold f_X8_isPlay_107
  rw [e_in2 hc (by decide) h0 h]
  rfl
theorem e_pPlay0 {x : Int32} {M : zMM} (hq : M 53 11 = M 109 3) (h : x < 0 ∨ (¬ x < 0 ∧ ¬ x < M 109 3)) : f_X7_checkPlay_51 x M = some (.inr 0, M) := by
  unfold f_X7_checkPlay_51
  rw [hq]
  rcases h with h | h
  · exact if_pos h
  · exact (if_neg h.1).trans (if_neg h.2)
theorem e_pPlay1 {x : Int32} {M : zMM} (hq : M 53 11 = M 109 3) (h0 : ¬ x < 0) (h : x < M 109 3) : f_X7_checkPlay_51 x M = some (.inl (), M) := by
  unfold f_X7_checkPlay_51
  rw [hq]
  exact (if_neg h0).trans (if_pos h)
theorem z_at_nI {M : zMM} {r N n : Nat} (hN : N < 2 ^ 31) (h : n < N) : z_at M r N (nI n) = M r n := by
  unfold z_at
  rw [if_neg (nI_pos (by omega)), if_neg (nI_ge h hN), nI_clamp (by omega)]
theorem z_ib_n {n N : Nat} (hN : N < 2 ^ 31) (h : n < N) : z_ib (nI n) N = true := by
  unfold z_ib
  rw [Bool.and_eq_true, decide_eq_true_eq, decide_eq_true_eq, nI_clamp (by omega)]
  exact ⟨nI_pos' (by omega), h⟩
theorem B_rides : z_op_rides := by
  intro k M a1 hk hI
  obtain ⟨p1, p2, p3⟩ := hI.j_plan
  have q : M 53 6 = M 109 1 := hI.j_cnt.2.1
  have bt : z_bd (M 109 1) 0 5 := hI.j_cnt.2.2.2.2.2.2.1
  have hfail : ∀ o, f_X7_rides_51 a1 M = some (o, M) → o = .inr 0 → f_X8_rides_107 a1 M = some ((0 : Int32), z_up (z_up M 107 1 (0 : Int32)) 107 1 (1 : Int32)) → ∃ (o : Int32 ⊕ Nat) (M1 : zMM) (b : Int32) (M2 : zMM), f_X7_rides_51 a1 M = some (o, M1) ∧ f_X8_rides_107 a1 M1 = some (b, M2) ∧ z_ag o b (M2 107 1) (some 1) none ∧ z_I (k + 1) M2 := by
    intro o h1 h2 h3
    subst h2
    exact ⟨.inr 0, M, 0, _, h1, h3, ⟨1, rfl, rfl, by decide⟩, hI.code ((z_fr.refl.up rfl).up rfl)⟩
  have hM0 : ∀ x, x < 0 ∨ (¬ x < 0 ∧ ¬ x < M 109 1) → f_X7_rides_51 x M = some (.inr 0, M) ∧ f_X8_rides_107 x M = some ((0 : Int32), z_up (z_up M 107 1 (0 : Int32)) 107 1 (1 : Int32)) := by
    intro x h
    constructor
    · unfold f_X7_rides_51; rw [e_pTrunk0 q h]; rfl
    · unfold f_X8_rides_107
      rw [e_mTrunk0 (M := z_up M 107 1 (0 : Int32)) bt h]; rfl
  rcases z_ix a1 bt with h | h | ⟨n, hn, rfl, h0, h1⟩
  · exact hfail _ (hM0 a1 (Or.inl h)).1 rfl (hM0 a1 (Or.inl h)).2
  · exact hfail _ (hM0 a1 (Or.inr h)).1 rfl (hM0 a1 (Or.inr h)).2
  · have hp : f_X1_hasPlan_103 M = some (M 107 53, M) := by
      unfold f_X1_hasPlan_103
      rw [p1, if_pos p2]
    have hn5 : n < 5 := by
      obtain ⟨m, hm, e1, e2, e3⟩ := bt.nI
      rw [e2] at hn
      omega
    by_cases h53 : M 107 53 = 0
    · refine hfail (.inr 0) ?_ rfl ?_
      · unfold f_X7_rides_51
        rw [e_pTrunk1 q h0 h1]
        show z_bi (f_X1_hasPlan_103 M) _ = _
        rw [hp]
        exact if_pos h53
      · unfold f_X8_rides_107
        rw [e_mTrunk1 (M := z_up M 107 1 (0 : Int32)) bt h0 h1]
        rw [z_bi_s, if_neg (by decide), if_pos (show z_up M 107 1 (0 : Int32) 107 53 = 0 from h53)]
        rfl
    · have h53' : M 107 53 = 1 := by
        simp only [z_zb, Bool.or_eq_true, decide_eq_true_eq] at p2
        rcases p2 with p2 | p2
        · exact absurd p2 h53
        · exact p2
      refine ⟨.inl (M 142 n), M, M 142 n, z_up M 107 1 (0 : Int32), ?_, ?_, ⟨rfl, rfl⟩, hI.code (z_fr.refl.up rfl)⟩
      · unfold f_X7_rides_51
        rw [e_pTrunk1 q h0 h1]
        show z_bi (f_X1_hasPlan_103 M) _ = _
        rw [hp]
        show (if M 107 53 = 0 then _ else _) = _
        rw [if_neg h53]
        show some (Sum.inl (z_at M 106 5 (nI n)), M) = _
        rw [z_at_nI (by decide) hn5, p3 h53' n hn]
      · unfold f_X8_rides_107
        rw [e_mTrunk1 (M := z_up M 107 1 (0 : Int32)) bt h0 h1]
        rw [z_bi_s, if_neg (by decide), if_neg (show ¬ z_up M 107 1 (0 : Int32) 107 53 = 0 from h53), if_pos (z_ib_n (by decide) hn5), nI_clamp (by omega)]
        rfl
