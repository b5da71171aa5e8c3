/-! ===== prices: price, tonight, both ===== -/
theorem zPfrq {M M' : zMM} (hf : z_fr w_sk M M') (p t s : Nat) : zP M' (so_ M') p t (tL M' s) = zP M (so_ M) p t (tL M s) := by
  have e2 : so_ M' = so_ M := by
    funext t
    unfold so_
    rw [hf 116 t rfl]
  have e3 : zq M' (so_ M) p = zq M (so_ M) p := by
    funext t j
    show sm_ M' (so_ M t) (nd_ M' p j) = sm_ M (so_ M t) (nd_ M p j)
    have e : nd_ M' p j = nd_ M p j := by unfold nd_; rw [hf 119 _ rfl]
    rw [e]
    unfold sm_
    rw [hf 121 _ rfl]
  rw [e2, tL_fr hf]
  unfold zP
  rw [e3, hf 113 t rfl, hf 120 p rfl, hf 112 t rfl]
theorem cntfrq {M M' : zMM} (hf : z_fr w_sk M M') : tw M' = tw M ∧ tk M' = tk M ∧ tg M' = tg M ∧ tp M' = tp M := by
  unfold tw tk tg tp
  rw [hf 109 0 rfl, hf 109 1 rfl, hf 109 2 rfl, hf 109 3 rfl]
  exact ⟨rfl, rfl, rfl, rfl⟩
/-- the class's price by a set of trunks -/
theorem e_byTr {k : Nat} {M : zMM} (hI : z_I k M) {p t s : Nat} (hp : p < tp M) (ht : t < tw M) (hs : s < 32) : ∃ x M', f_X2_byTrunks_83 (nI p) (nI t) (nI s) M = some (x, M') ∧ z_ls (zP M (so_ M) p t (tL M s)) x ∧ z_I k M' ∧ z_fr w_sk M M' := by
  have h4 := tp_le hI.j_cnt
  obtain ⟨t5, w1, w2, w3, w4, w5, w6⟩ := e_town hI ht
  have eslot : (nI p * (5 : Int32) + nI t) * (32 : Int32) + nI s = nI ((5 * p + t) * 32 + s) := by
    rw [nI_51, show nI (5 * p + t) * (32 : Int32) = nI ((5 * p + t) * 32) from nI_mul _ 32, nI_add]
  unfold f_X2_byTrunks_83
  rw [eslot, z_at_nI (by decide) (by omega)]
  by_cases hu : M 84 ((5 * p + t) * 32 + s) = -2
  · rw [if_pos hu]
    obtain ⟨y, y1, -, y3⟩ := e_things hI hI z_fr.refl s
    have h10 := tg_le hI.j_cnt
    obtain ⟨x, M1, a1, a2⟩ := e_least hI (p := p) (t := t) (i := 0) (l := (M 112 t).toNatClampNeg) (y := y) (more := -1) (L := tL M s) (so := so_ M) hp ht (by omega) (by omega) (fun u hu => y3 u (by omega)) (fun u h1 h2 => by
      unfold tL
      rw [decide_eq_false (by unfold tg at h1; omega), Bool.false_and]) (fun u _ => rfl) (Or.inl ⟨rfl, by
      unfold tL
      rw [decide_eq_false (by unfold tg at h10; omega), Bool.false_and]⟩)
    rw [y1, z_bi_s, z_at_nI (by decide) t5, w1, show f_X2_leastPrice_83 (nI p) (nI t) (0 : Int32) y (-1 : Int32) (nI (M 112 t).toNatClampNeg) M = _ from a1, z_bi_s, z_pt_nI (by decide) (by omega), z_bv_s]
    have hf1 : z_fr w_sc M M1 := z_sub_sc (R_X2_leastPrice_83 a1) (by decide)
    have hI1 := hI.sc hf1
    have hf2 : z_fr w_sk M (z_up M1 84 ((5 * p + t) * 32 + s) x) := (sc_sk hf1).up rfl
    have hx : z_ls (zP M (so_ M) p t (tL M s)) x := a2
    refine ⟨x, _, rfl, hx, z_Iknown hI hf2 (fun p' hp' t' ht' s' hs' => ?_), hf2⟩
    rw [zPfrq hf2]
    obtain ⟨c1, c2, c3, c4⟩ := cntfrq hf2
    rw [c4] at hp'
    rw [c1] at ht'
    by_cases he : (5 * p' + t') * 32 + s' = (5 * p + t) * 32 + s
    · have h5 := tw_le hI.j_cnt
      have e1 : p' = p := by omega
      have e2 : t' = t := by omega
      have e3 : s' = s := by omega
      rw [e1, e2, e3, z_up_s]
      exact Or.inr hx
    · rw [z_up_n he, hf1 84 _ rfl]
      exact hI.j_known p' hp' t' ht' s' hs'
  · rw [if_neg hu]
    exact ⟨_, M, rfl, (hI.j_known p hp t ht s hs).resolve_left hu, hI, z_fr.refl⟩
/-- the model's price by a set of trunks -/
theorem e_mTr {k : Nat} {M : zMM} (hI : z_I k M) {p t s : Nat} {y : Int32} (hp : p < tp M) (ht : t < tw M) (hy : ∀ u, u < 32 → gb y u = tL M s u) : ∃ x M', f_X8_priceOf_107 (nI p) (nI t) y M = some (x, M') ∧ z_ls (zP M (so_ M) p t (tL M s)) x ∧ z_I k M' ∧ z_fr w_sk M M' ∧ M' 107 1 = M 107 1 := by
  obtain ⟨x, M', a1, a2, -⟩ := e_priceOf hI (p := p) (t := t) (so := so_ M) (y := y) (L := tL M s) hp ht (fun u hu => hy u (by omega)) (fun u hu hL => by
    obtain ⟨-, -, g3, g4⟩ := e_thing hI (tL_lt hL)
    exact ⟨g3, g4⟩)
  have hf : z_fr w_sc M M' := z_sub_sc (R_X8_priceOf_107 a1) (by decide)
  exact ⟨x, M', a1, a2, hI.sc hf, sc_sk hf, R_X8_priceOf_107 a1 107 1 rfl⟩
theorem B_price : z_op_price := by
  intro k M a1 a2 a3 hk hI
  have qT := hI.j_cnt.1
  have bT := hI.j_cnt.2.2.2.2.2.1
  have qP := hI.j_cnt.2.2.2.1
  have bP := hI.j_cnt.2.2.2.2.2.2.2.2.1
  have hfail : f_X7_price_51 a1 a2 a3 M = some (.inr 0, M) → f_X8_price_107 a1 a2 a3 M = some ((0 : Int32), z_up (z_up M 107 1 (0 : Int32)) 107 1 (1 : Int32)) → ∃ (o : Int32 ⊕ Nat) (M1 : zMM) (b : Int32) (M2 : zMM), f_X7_price_51 a1 a2 a3 M = some (o, M1) ∧ f_X8_price_107 a1 a2 a3 M1 = some (b, M2) ∧ z_ag o b (M2 107 1) (some 1) (some 2) ∧ z_I (k + 1) M2 :=
    fun h1 h3 => ⟨.inr 0, M, 0, _, h1, h3, ⟨1, rfl, rfl, by decide⟩, hI.code ((z_fr.refl.up rfl).up rfl)⟩
  have hM0 : a1 < 0 ∨ (¬ a1 < 0 ∧ ¬ a1 < M 109 3) → ∃ (o : Int32 ⊕ Nat) (M1 : zMM) (b : Int32) (M2 : zMM), f_X7_price_51 a1 a2 a3 M = some (o, M1) ∧ f_X8_price_107 a1 a2 a3 M1 = some (b, M2) ∧ z_ag o b (M2 107 1) (some 1) (some 2) ∧ z_I (k + 1) M2 := by
    intro h
    refine hfail ?_ ?_
    · unfold f_X7_price_51; rw [e_pPlay0 qP h]; rfl
    · unfold f_X8_price_107; rw [e_mPlay0 (M := z_up M 107 1 (0 : Int32)) bP h]; rfl
  rcases z_ix a1 bP with h | h | ⟨p, hp, rfl, h0, h1⟩
  · exact hM0 (Or.inl h)
  · exact hM0 (Or.inr h)
  have hM1 : a2 < 0 ∨ (¬ a2 < 0 ∧ ¬ a2 < M 109 0) → ∃ (o : Int32 ⊕ Nat) (M1 : zMM) (b : Int32) (M2 : zMM), f_X7_price_51 (nI p) a2 a3 M = some (o, M1) ∧ f_X8_price_107 (nI p) a2 a3 M1 = some (b, M2) ∧ z_ag o b (M2 107 1) (some 1) (some 2) ∧ z_I (k + 1) M2 := by
    intro h
    refine hfail ?_ ?_
    · unfold f_X7_price_51; rw [e_pPlay1 qP h0 h1, z_bt_l, e_pTown0 qT h]; rfl
    · unfold f_X8_price_107; rw [e_mPlay1 (M := z_up M 107 1 (0 : Int32)) bP h0 h1, z_bi_s, if_neg (by decide), e_mTown0 (M := z_up M 107 1 (0 : Int32)) bT h]; rfl
  rcases z_ix a2 bT with h | h | ⟨t, ht, rfl, h2, h3⟩
  · exact hM1 (Or.inl h)
  · exact hM1 (Or.inr h)
  have hp' : p < tp M := hp
  have ht' : t < tw M := ht
  have h10 := tg_le hI.j_cnt
  obtain ⟨t5, w1, w2, w3, w4, w5, w6⟩ := e_town hI ht'
  obtain ⟨N, -, hN, hNc, hN5⟩ := hI.j_cnt.2.2.2.2.2.2.2.1.nI
  have eN : tg M = N := hNc
  have eC : ∀ r, (if (a3 &&& (nI (2 ^ N - 1) ^^^ (-1 : Int32))) = 0 then z_bi (f_X2_byThings_83 (nI p) (nI t) a3 (-1 : Int32) M) fun v14 M15 => some (.inl v14, M15) else some (.inr 1, M)) = r → f_X7_price_51 (nI p) (nI t) a3 M = r := by
    intro r hr
    unfold f_X7_price_51
    rw [e_pPlay1 qP h0 h1, z_bt_l, e_pTown1 qT h2 h3, z_bt_l, hI.j_cnt.2.2.1, hN, e_low (by omega), z_bi_s]
    exact hr
  have key : (a3 &&& (nI (2 ^ N - 1) ^^^ (-1 : Int32))) = 0 ↔ ∀ u, N ≤ u → u < 32 → gb a3 u = false := by
    constructor
    · intro h u hu1 hu2
      have := congrArg (fun z => gb z u) h
      rw [gb_and, gb_xm hu2, gb_n hu2, gb_0, Nat.testBit_two_pow_sub_one, decide_eq_false (by omega)] at this
      simpa using this
    · intro h
      apply gb_ext
      intro u hu
      rw [gb_and, gb_xm hu, gb_n hu, gb_0, Nat.testBit_two_pow_sub_one]
      by_cases hu1 : u < N
      · rw [decide_eq_true hu1]; simp
      · rw [h u (by omega) hu]; simp
  have key2 : (¬ a3 < 0 ∧ ¬ nI (2 ^ N - 1) < a3) ↔ ∀ u, N ≤ u → u < 32 → gb a3 u = false := by
    have hpw : 2 ^ N ≤ 2 ^ 10 := Nat.pow_le_pow_right (n := 2) (by decide) (by omega)
    have hp1 : 1 ≤ 2 ^ N := Nat.pow_pos (by decide)
    constructor
    · rintro ⟨g1, g2⟩ u hu1 hu2
      obtain ⟨j, hj, rfl⟩ := nI_of g1
      have : ¬ 2 ^ N - 1 < j := fun z => g2 (nI_lt z hj)
      rw [gb_n hu2]
      exact Nat.testBit_lt_two_pow (Nat.lt_of_lt_of_le (show j < 2 ^ N by omega) (Nat.pow_le_pow_right (by decide) hu1))
    · intro h
      obtain ⟨s, hs, rfl⟩ := gb_num (x := a3) (b := N) (by omega) h
      exact ⟨nI_pos (by omega), nI_nlt (by omega) (by omega)⟩
  have eM : ∀ M1 r, z_fr w_sk M M1 → z_I k M1 → (if (¬ a3 < 0 ∧ ¬ nI (2 ^ N - 1) < a3) then z_bi (f_X8_priceOf_107 (nI p) (nI t) a3 (z_up M1 107 1 (0 : Int32))) fun v23 M24 => some (v23, M24) else some ((0 : Int32), z_up (z_up M1 107 1 (0 : Int32)) 107 1 (2 : Int32))) = r → f_X8_price_107 (nI p) (nI t) a3 M1 = r := by
    intro M1 r hf hI1 hr
    have bP1 : z_bd (M1 109 3) 0 4 := hI1.j_cnt.2.2.2.2.2.2.2.2.1
    have bT1 : z_bd (M1 109 0) 0 5 := hI1.j_cnt.2.2.2.2.2.1
    have g1 : nI p < M1 109 3 := by rw [hf 109 3 rfl]; exact h1
    have g3 : nI t < M1 109 0 := by rw [hf 109 0 rfl]; exact h3
    have klow : ∀ n : Nat, n < 11 → ((1 : Int32) <<< (nI n &&& 31)) - (1 : Int32) = nI (2 ^ n - 1) := by decide +kernel
    unfold f_X8_price_107
    rw [e_mPlay1 (M := z_up M1 107 1 (0 : Int32)) bP1 h0 g1, z_bi_s, if_neg (by decide), e_mTown1 (M := z_up M1 107 1 (0 : Int32)) bT1 h2 g3, z_bi_s, if_neg (by decide), show z_up M1 107 1 (0 : Int32) 109 2 = nI N from (hf 109 2 rfl).trans hN, klow N (by omega), e_isIn]
    rw [← hr]
    by_cases g : a3 < 0
    · rw [if_pos g, if_neg (fun z => z.1 g)]; rfl
    · by_cases g' : nI (2 ^ N - 1) < a3
      · rw [if_neg g, if_pos g', if_neg (fun z => z.2 g')]; rfl
      · rw [if_neg g, if_neg g', if_pos ⟨g, g'⟩]; rfl
  by_cases hset : ∀ u, N ≤ u → u < 32 → gb a3 u = false
  · obtain ⟨x, M1, a1, a2⟩ := e_least hI (p := p) (t := t) (i := 0) (l := (M 112 t).toNatClampNeg) (y := a3) (more := -1) (L := gb a3) (so := so_ M) hp' ht' (by omega) (by omega) (fun u hu => rfl) (fun u h1 h2 => hset u (by omega) (by omega)) (fun u _ => rfl) (Or.inl ⟨rfl, hset 10 (by omega) (by omega)⟩)
    have hf1 : z_fr w_sc M M1 := z_sub_sc (R_X2_leastPrice_83 a1) (by decide)
    have hI1 := hI.sc hf1
    have hI2 : z_I k (z_up M1 107 1 (0 : Int32)) := hI1.sc w1_sc
    have hf2 : z_fr w_sk M (z_up M1 107 1 (0 : Int32)) := (sc_sk hf1).up rfl
    obtain ⟨c1, c2, c3, c4⟩ := cntfrq hf2
    obtain ⟨x', M2, b1, b2, -⟩ := e_priceOf hI2 (p := p) (t := t) (so := so_ M) (y := a3) (L := gb a3) (by rw [c4]; exact hp') (by rw [c1]; exact ht') (fun u hu => rfl) (fun u hu hL => by
      have hug : u < tg M := by
        rw [eN]
        apply Nat.not_le.mp
        intro z
        rw [hset u z (by omega)] at hL
        exact absurd hL (by decide)
      obtain ⟨-, -, g3, g4⟩ := e_thing hI hug
      exact ⟨(hf2 116 u rfl).trans g3, g4⟩)
    have e3 : zq (z_up M1 107 1 (0 : Int32)) (so_ M) p = zq M (so_ M) p := by
      funext t j
      show sm_ _ (so_ M t) (nd_ _ p j) = sm_ M (so_ M t) (nd_ M p j)
      have e : nd_ (z_up M1 107 1 (0 : Int32)) p j = nd_ M p j := by unfold nd_; rw [hf2 119 _ rfl]
      rw [e]
      unfold sm_
      rw [hf2 121 _ rfl]
    have hxx : x' = x := by
      refine z_ls.inj (p := zP M (so_ M) p t (gb a3)) ?_ a2
      have : zP (z_up M1 107 1 (0 : Int32)) (so_ M) p t (gb a3) = zP M (so_ M) p t (gb a3) := by
        unfold zP
        rw [e3, hf2 113 t rfl, hf2 120 p rfl, hf2 112 t rfl]
      rw [← this]; exact b2
    rw [hxx] at b1
    refine ⟨.inl x, M1, x, M2, eC _ ?_, eM M1 _ (sc_sk hf1) hI1 ?_, ⟨?_, rfl⟩, (hI2.sc (z_sub_sc (R_X8_priceOf_107 b1) (by decide))).up⟩
    · rw [if_pos (key.mpr hset)]
      unfold f_X2_byThings_83
      rw [z_at_nI (by decide) t5, w1, show f_X2_leastPrice_83 (nI p) (nI t) (0 : Int32) a3 (-1 : Int32) (nI (M 112 t).toNatClampNeg) M = _ from a1]
      rfl
    · rw [if_pos (key2.mpr hset), b1]; rfl
    · show M2 107 1 = 0
      rw [R_X8_priceOf_107 b1 107 1 rfl]; exact z_up_s
  · refine ⟨.inr 1, M, 0, z_up (z_up M 107 1 (0 : Int32)) 107 1 (2 : Int32), eC _ ?_, eM M _ z_fr.refl hI ?_, ⟨2, rfl, rfl, by decide⟩, hI.code ((z_fr.refl.up rfl).up rfl)⟩
    · rw [if_neg (fun z => hset (key.mp z))]
    · rw [if_neg (fun z => hset (key2.mp z))]
/-- tonight: both loops, over any memories that tell the same -/
theorem e_tonight {k0 : Nat} {M0 : zMM} (hI0 : z_I k0 M0) {t s : Nat} (ht : t < tw M0) (hs : s < 32) (hs2 : ∀ M', z_fr w_sk M0 M' → f_X8_trunksAt_107 (nI t) M' = some (nI s, M')) {a2 : Int32} :
    ∀ k j, j + k = tp M0 → ∀ fu gu M M' x3 x4, k < fu → k < gu → z_I k0 M → z_I k0 M' → z_fr w_sk M0 M → z_fr w_sk M0 M' → ((x3 = -1 ∧ x4 = -1) ∨ (x3 ≠ -1 ∧ x4 ≠ -1)) → ∃ r M1 M1', f_X7_tonight_51_p27 fu (nI t) a2 x3 x4 (nI s) (nI j) M = some (.inl r, M1) ∧ f_X8_tonight_107_p36 gu (nI t) a2 x3 x4 (nI j) M' = some (r, M1') ∧ z_I k0 M1 ∧ z_I k0 M1' ∧ z_fr w_sk M0 M1 ∧ z_fr w_sk M0 M1' ∧ M1' 107 1 = M' 107 1 := by
  have h4 := tp_le hI0.j_cnt
  intro k
  induction k with
  | zero =>
    intro j hj fu gu M M' x3 x4 hfu hgu hI hI' hf hf' hx
    obtain ⟨fu, rfl⟩ : ∃ m, fu = m + 1 := ⟨fu - 1, by omega⟩
    obtain ⟨gu, rfl⟩ : ∃ m, gu = m + 1 := ⟨gu - 1, by omega⟩
    unfold f_X7_tonight_51_p27 f_X8_tonight_107_p36
    obtain ⟨N, -, hN, hNc, -⟩ := hI0.j_cnt.2.2.2.2.2.2.2.2.1.nI
    have eN : tp M0 = N := hNc
    rw [hI.j_cnt.2.2.2.1, hf 109 3 rfl, hf' 109 3 rfl, hN, if_pos (nI_le (by omega) (by omega)), if_pos (nI_le (by omega) (by omega))]
    by_cases h : a2 = 0
    · rw [if_pos h, if_pos h]; exact ⟨x3, M, M', rfl, rfl, hI, hI', hf, hf', rfl⟩
    · rw [if_neg h, if_neg h]; exact ⟨x4, M, M', rfl, rfl, hI, hI', hf, hf', rfl⟩
  | succ k ih =>
    intro j hj fu gu M M' x3 x4 hfu hgu hI hI' hf hf' hx
    obtain ⟨fu, rfl⟩ : ∃ m, fu = m + 1 := ⟨fu - 1, by omega⟩
    obtain ⟨gu, rfl⟩ : ∃ m, gu = m + 1 := ⟨gu - 1, by omega⟩
    unfold f_X7_tonight_51_p27 f_X8_tonight_107_p36
    obtain ⟨N, -, hN, hNc, -⟩ := hI0.j_cnt.2.2.2.2.2.2.2.2.1.nI
    have eN : tp M0 = N := hNc
    obtain ⟨c1, c2, c3, c4⟩ := cntfrq hf
    obtain ⟨d1, d2, d3, d4⟩ := cntfrq hf'
    have ep : M 62 j = M' 118 j := by
      rw [(hI.j_play j (by omega)).1, hf 118 j rfl, hf' 118 j rfl]
    have et : M 53 16 = M' 109 4 := by rw [hI.j_cnt.2.2.2.2.1, hf 109 4 rfl, hf' 109 4 rfl]
    rw [hI.j_cnt.2.2.2.1, hf 109 3 rfl, hf' 109 3 rfl, hN, if_neg (nI_ge (by omega) (by omega)), if_neg (nI_ge (by omega) (by omega)), z_at_nI (by decide) (by omega), if_pos (z_ib_n (by decide) (by omega)), nI_clamp (by omega), ep, et]
    by_cases hc : M' 109 4 < M' 118 j
    · rw [if_pos hc, if_pos hc]
      unfold f_X8_tonight_107_p83
      rw [if_pos rfl, nI_1]
      exact ih (j + 1) (by omega) fu gu M M' x3 x4 (by omega) (by omega) hI hI' hf hf' hx
    · rw [if_neg hc, if_neg hc]
      obtain ⟨x, Ma, a1, a2', a3, a4⟩ := e_byTr hI (p := j) (t := t) (s := s) (by omega) (by omega) hs
      obtain ⟨y, -, y2, y3⟩ := e_things hI' hI' z_fr.refl s
      obtain ⟨x', Mb, b1, b2, b3, b4, b5⟩ := e_mTr hI' (p := j) (t := t) (s := s) (y := y) (by omega) (by omega) y3
      have hxx : x' = x := by
        rw [zPfrq hf'] at b2
        rw [zPfrq hf] at a2'
        exact b2.inj a2'
      rw [hxx] at b1
      rw [a1, z_bi_s, hs2 M' hf', z_bi_s, y2, z_bi_s, b1, z_bi_s, nI_1]
      unfold f_X8_tonight_107_p83
      have hfa : z_fr w_sk M0 Ma := hf.trans a4
      have hfb : z_fr w_sk M0 Mb := hf'.trans b4
      have hxv : x = -1 ∨ ∃ v, v < 10000 ∧ x = nI v := by
        rcases a2' with ⟨z, -⟩ | ⟨v, z1, z2, -⟩
        · exact Or.inl z
        · exact Or.inr ⟨v, z2, z1⟩
      rcases e_less (y := x) (x := x4) (M := Ma) with ⟨hz, e⟩ | ⟨hz, e⟩
      · rw [e, z_bi_s, if_neg (by decide), if_neg hz.1]
        have hnew : (nI j = -1 ∧ x = -1) ∨ (nI j ≠ -1 ∧ x ≠ -1) := Or.inr ⟨nI_m1 (by omega), hz.1⟩
        rcases hx with ⟨q1, q2⟩ | ⟨q1, q2⟩
        · rw [if_pos q1, nI_1]
          obtain ⟨r_, M1_, M1'_, s1, s2, s3, s4, s5, s6, s7⟩ := ih (j + 1) (by omega) fu gu Ma Mb (nI j) x (by omega) (by omega) a3 b3 hfa hfb hnew
          exact ⟨r_, M1_, M1'_, s1, s2, s3, s4, s5, s6, s7.trans b5⟩
        · rw [if_neg q1, if_pos (hz.2.resolve_left q2), nI_1]
          obtain ⟨r_, M1_, M1'_, s1, s2, s3, s4, s5, s6, s7⟩ := ih (j + 1) (by omega) fu gu Ma Mb (nI j) x (by omega) (by omega) a3 b3 hfa hfb hnew
          exact ⟨r_, M1_, M1'_, s1, s2, s3, s4, s5, s6, s7.trans b5⟩
      · rw [e, z_bi_s, if_pos rfl]
        by_cases hx1 : x = -1
        · rw [if_pos hx1, nI_1]
          obtain ⟨r_, M1_, M1'_, s1, s2, s3, s4, s5, s6, s7⟩ := ih (j + 1) (by omega) fu gu Ma Mb x3 x4 (by omega) (by omega) a3 b3 hfa hfb hx
          exact ⟨r_, M1_, M1'_, s1, s2, s3, s4, s5, s6, s7.trans b5⟩
        · rw [if_neg hx1]
          rcases hx with ⟨q1, q2⟩ | ⟨q1, q2⟩
          · exact absurd ⟨hx1, Or.inl q2⟩ hz
          · rw [if_neg q1, if_neg (fun z => hz ⟨hx1, Or.inr z⟩), nI_1]
            obtain ⟨r_, M1_, M1'_, s1, s2, s3, s4, s5, s6, s7⟩ := ih (j + 1) (by omega) fu gu Ma Mb x3 x4 (by omega) (by omega) a3 b3 hfa hfb (Or.inr ⟨q1, q2⟩)
            exact ⟨r_, M1_, M1'_, s1, s2, s3, s4, s5, s6, s7.trans b5⟩
theorem e_pair {a : Int32} {M : zMM} : ((a = 0 ∨ a = 1) ∧ f_X7_checkPair a M = some (.inl (), M)) ∨ (¬ (a = 0 ∨ a = 1) ∧ f_X7_checkPair a M = some (.inr 0, M)) := by
  unfold f_X7_checkPair
  by_cases h0 : a = 0
  · left; rw [if_pos h0]; exact ⟨Or.inl h0, rfl⟩
  · rw [if_neg h0]
    by_cases h1 : a = 1
    · left; rw [if_pos h1]; exact ⟨Or.inr h1, rfl⟩
    · right; rw [if_neg h1]; exact ⟨fun z => z.elim h0 h1, rfl⟩
theorem pair_mq {a : Int32} : (a = 0 ∨ a = 1) ↔ (¬ a < 0 ∧ a ≤ 1) := by
  constructor
  · rintro (rfl | rfl) <;> decide
  · rintro ⟨h1, h2⟩
    obtain ⟨j, hj, rfl⟩ := nI_of h1
    have : j ≤ 1 := (nI_leI (b := 1) hj (by decide)).mp h2
    have : j = 0 ∨ j = 1 := by omega
    rcases this with rfl | rfl
    · exact Or.inl rfl
    · exact Or.inr rfl
theorem B_tonight : z_op_tonight := by
  intro k M a1 a2 hk hI
  have q := hI.j_cnt.1
  have bt := hI.j_cnt.2.2.2.2.2.1
  have h5 := tw_le hI.j_cnt
  have h4 := tp_le hI.j_cnt
  have hfail : f_X7_tonight_51 a1 a2 M = some (.inr 0, M) → f_X8_tonight_107 a1 a2 M = some ((0 : Int32), z_up (z_up M 107 1 (0 : Int32)) 107 1 (1 : Int32)) → ∃ (o : Int32 ⊕ Nat) (M1 : zMM) (b : Int32) (M2 : zMM), f_X7_tonight_51 a1 a2 M = some (o, M1) ∧ f_X8_tonight_107 a1 a2 M1 = some (b, M2) ∧ z_ag o b (M2 107 1) (some 1) none ∧ z_I (k + 1) M2 :=
    fun h1 h3 => ⟨.inr 0, M, 0, _, h1, h3, ⟨1, rfl, rfl, by decide⟩, hI.code ((z_fr.refl.up rfl).up rfl)⟩
  have hM0 : a1 < 0 ∨ (¬ a1 < 0 ∧ ¬ a1 < M 109 0) → ∃ (o : Int32 ⊕ Nat) (M1 : zMM) (b : Int32) (M2 : zMM), f_X7_tonight_51 a1 a2 M = some (o, M1) ∧ f_X8_tonight_107 a1 a2 M1 = some (b, M2) ∧ z_ag o b (M2 107 1) (some 1) none ∧ z_I (k + 1) M2 := by
    intro h
    refine hfail ?_ ?_
    · unfold f_X7_tonight_51; rw [e_pTown0 q h]; rfl
    · unfold f_X8_tonight_107; rw [e_mTown0 (M := z_up M 107 1 (0 : Int32)) bt h]; rfl
  rcases z_ix a1 bt with h | h | ⟨t, ht, rfl, h0, h1⟩
  · exact hM0 (Or.inl h)
  · exact hM0 (Or.inr h)
  have ht' : t < tw M := ht
  have eM : ∀ M1 r, z_fr w_sk M M1 → z_I k M1 → (if (¬ a2 < 0 ∧ a2 ≤ 1) then f_X8_tonight_107_p36 z_fuel (nI t) a2 (-1 : Int32) (-1 : Int32) (0 : Int32) (z_up M1 107 1 (0 : Int32)) else some ((0 : Int32), z_up (z_up M1 107 1 (0 : Int32)) 107 1 (1 : Int32))) = r → f_X8_tonight_107 (nI t) a2 M1 = r := by
    intro M1 r hf hI1 hr
    have bT1 : z_bd (M1 109 0) 0 5 := hI1.j_cnt.2.2.2.2.2.1
    have g3 : nI t < M1 109 0 := by rw [hf 109 0 rfl]; exact h1
    unfold f_X8_tonight_107
    rw [e_mTown1 (M := z_up M1 107 1 (0 : Int32)) bT1 h0 g3, z_bi_s, if_neg (by decide), ← hr]
    by_cases g : a2 < 0
    · rw [if_pos g, if_neg (fun z => z.1 g)]; rfl
    · by_cases g' : a2 ≤ 1
      · rw [if_neg g, if_pos g', if_pos ⟨g, g'⟩]
      · rw [if_neg g, if_neg g', if_neg (fun z => g' z.2)]; rfl
  rcases e_pair (a := a2) (M := M) with ⟨g, e⟩ | ⟨g, e⟩
  · obtain ⟨s, hs, s1, s2, s3⟩ := e_trunks hI z_fr.refl (a := t) (by omega)
    have hs2 : ∀ M', z_fr w_sk M M' → f_X8_trunksAt_107 (nI t) M' = some (nI s, M') := by
      intro M' hf
      obtain ⟨s', hs', s1', s2', -⟩ := e_trunks hI hf (a := t) (by omega)
      rw [s1] at s1'
      injection s1' with z
      injection z with z
      rw [z]; exact s2'
    have key : ∀ M', z_I k M' → z_fr w_sk M M' → ∃ r M1 M1', f_X7_tonight_51_p27 z_fuel (nI t) a2 (-1) (-1) (nI s) (nI 0) M = some (.inl r, M1) ∧ f_X8_tonight_107_p36 z_fuel (nI t) a2 (-1) (-1) (nI 0) M' = some (r, M1') ∧ z_I k M1 ∧ z_I k M1' ∧ z_fr w_sk M M1 ∧ z_fr w_sk M M1' ∧ M1' 107 1 = M' 107 1 :=
      fun M' hI' hf' => e_tonight hI ht' hs hs2 (tp M) 0 (by omega) z_fuel z_fuel M M' (-1) (-1) (by unfold z_fuel; omega) (by unfold z_fuel; omega) hI hI' z_fr.refl hf' (Or.inl ⟨rfl, rfl⟩)
    obtain ⟨r, M1, -, e1, -, i1, -, f1, -, -⟩ := key M hI z_fr.refl
    obtain ⟨r', M1', M2, e1', e2, -, i2, -, f2, f3⟩ := key (z_up M1 107 1 (0 : Int32)) (i1.sc w1_sc) (f1.up rfl)
    rw [e1] at e1'
    injection e1' with z
    injection z with z z'
    injection z with z
    rw [← z] at e2
    refine ⟨.inl r, M1, r, M2, ?_, eM M1 _ f1 i1 ((if_pos (pair_mq.mp g)).trans e2), ⟨?_, rfl⟩, i2.up⟩
    · unfold f_X7_tonight_51
      rw [e_pTown1 q h0 h1, z_bt_l, e, z_bt_l, s1, z_bi_s]
      exact e1
    · show M2 107 1 = 0
      rw [f3]; exact z_up_s
  · refine hfail ?_ (eM M _ z_fr.refl hI (if_neg (fun z => g (pair_mq.mpr z))))
    unfold f_X7_tonight_51
    rw [e_pTown1 q h0 h1, z_bt_l, e, z_bt_r]
