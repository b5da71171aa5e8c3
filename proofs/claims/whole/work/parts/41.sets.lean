/-! ===== sets of trunks and of things ===== -/
def w_sc : zWs := ([(107, 1), (107, 38), (107, 52), (103, 8), (103, 9)], [82, 85, 86, 104, 105, 128, 129, 139, 140, 141])
theorem z_I.sc {k : Nat} {M M' : zMM} (hI : z_I k M) (hf : z_fr w_sc M M') : z_I k M' := ⟨(hI.j_tape.fr (by decide) hf), (hI.j_fault.fr (by decide) hf), (hI.j_cnt.fr (by decide) hf), (hI.j_town.fr (by decide) hf), (hI.j_train.fr (by decide) hf), (hI.j_thing.fr (by decide) hf), (hI.j_play.fr (by decide) hf), (hI.j_like.fr (by decide) hf), (hI.j_day.fr (by decide) hf), (hI.j_seed.fr (by decide) hf), (hI.j_place.fr (by decide) hf), (hI.j_night.fr (by decide) hf), (hI.j_stat.fr (by decide) hf), (hI.j_plan.fr (by decide) hf), (hI.j_st1.fr (by decide) hf), (hI.j_st2.fr (by decide) hf), (hI.j_img.fr (by decide) hf), (hI.j_past.fr (by decide) hf), (hI.j_ways.fr (by decide) hf), (hI.j_known.fr (by decide) hf)⟩
theorem z_I.up {k : Nat} {M : zMM} (hI : z_I k M) : z_I (k + 1) M := by
  have hf : z_fr ([], []) M M := z_fr.refl
  exact ⟨(hI.j_tape.fr (by decide) hf), (hI.j_fault.fr (by decide) hf), (hI.j_cnt.fr (by decide) hf), (hI.j_town.fr (by decide) hf), (hI.j_train.fr (by decide) hf), (hI.j_thing.fr (by decide) hf), (hI.j_play.fr (by decide) hf), (hI.j_like.fr (by decide) hf), (hI.j_day.fr (by decide) hf).mono, (hI.j_seed.fr (by decide) hf), (hI.j_place.fr (by decide) hf).mono, (hI.j_night.fr (by decide) hf), (hI.j_stat.fr (by decide) hf), (hI.j_plan.fr (by decide) hf), (hI.j_st1.fr (by decide) hf), (hI.j_st2.fr (by decide) hf), (hI.j_img.fr (by decide) hf).mono, (hI.j_past.fr (by decide) hf).mono, (hI.j_ways.fr (by decide) hf), (hI.j_known.fr (by decide) hf)⟩
theorem z_Iknown {k : Nat} {M M' : zMM} (hI : z_I k M) (hf : z_fr ([(107, 1), (107, 38), (107, 52), (103, 8), (103, 9)], [82, 84, 85, 86, 104, 105, 128, 129, 139, 140, 141]) M M') (hk : j_known M') : z_I k M' := ⟨(hI.j_tape.fr (by decide) hf), (hI.j_fault.fr (by decide) hf), (hI.j_cnt.fr (by decide) hf), (hI.j_town.fr (by decide) hf), (hI.j_train.fr (by decide) hf), (hI.j_thing.fr (by decide) hf), (hI.j_play.fr (by decide) hf), (hI.j_like.fr (by decide) hf), (hI.j_day.fr (by decide) hf), (hI.j_seed.fr (by decide) hf), (hI.j_place.fr (by decide) hf), (hI.j_night.fr (by decide) hf), (hI.j_stat.fr (by decide) hf), (hI.j_plan.fr (by decide) hf), (hI.j_st1.fr (by decide) hf), (hI.j_st2.fr (by decide) hf), (hI.j_img.fr (by decide) hf), (hI.j_past.fr (by decide) hf), (hI.j_ways.fr (by decide) hf), hk⟩
def w_sk : zWs := ([(107, 1), (107, 38), (107, 52), (103, 8), (103, 9)], [82, 84, 85, 86, 104, 105, 128, 129, 139, 140, 141])
theorem sc_sk {M M' : zMM} (h : z_fr w_sc M M') : z_fr w_sk M M' := z_fr.refl.sub h (by decide)
theorem z_sub_sk {w : zWs} {M M' : zMM} (h : z_fr w M M') (hs : z_sub w w_sk = true) : z_fr w_sk M M' := z_fr.refl.sub h hs
theorem z_sub_sc {w : zWs} {M M' : zMM} (h : z_fr w M M') (hs : z_sub w w_sc = true) : z_fr w_sc M M' := z_fr.refl.sub h hs
/-- a set of trunks is a number -/
theorem gb_num {x : Int32} {b : Nat} (hb : b ≤ 31) (h : ∀ u, b ≤ u → u < 32 → gb x u = false) : ∃ s, s < 2 ^ b ∧ x = nI s := by
  refine ⟨x.toBitVec.toNat, Nat.lt_pow_two_of_testBit _ (fun i hi => ?_), ?_⟩
  · rw [BitVec.testBit_toNat]
    by_cases h32 : i < 32
    · exact h i hi h32
    · exact BitVec.getLsbD_of_ge _ _ (by omega)
  · apply Int32.toBitVec_inj.mp
    show x.toBitVec = BitVec.ofNat 32 x.toBitVec.toNat
    rw [BitVec.ofNat_toNat, BitVec.setWidth_eq]
theorem dec_sucq {j u : Nat} {X : Prop} [Decidable X] (h : ¬ u = j) : decide (j + 1 ≤ u ∧ X) = decide (j ≤ u ∧ X) := decide_eq_decide.mpr ⟨fun z => ⟨by omega, z.2⟩, fun z => ⟨by omega, z.2⟩⟩
theorem dec_suc2q {j u : Nat} (h : ¬ u = j) : decide (j + 1 ≤ u) = decide (j ≤ u) := decide_eq_decide.mpr ⟨fun z => by omega, fun z => by omega⟩
theorem e_tr7 {M : zMM} {a : Int32} : ∀ k j, j + k = 5 → ∀ n acc, k < n → ∃ y, f_X4_trunksIn_87_p4 n a acc (nI j) M = some (y, M) ∧ ∀ u, u < 32 → gb y u = (gb acc u || decide (j ≤ u ∧ u < 5 ∧ M 88 u = a ∧ ¬ M 87 2 < M 89 u)) := by
  intro k
  induction k with
  | zero =>
    intro j hj n acc hn
    obtain ⟨n, rfl⟩ : ∃ m, n = m + 1 := ⟨n - 1, by omega⟩
    refine ⟨acc, if_pos (show (5 : Int32) ≤ nI j from nI_le (a := 5) (by omega) (by omega)), fun u hu => ?_⟩
    rw [decide_eq_false (by omega), Bool.or_false]
  | succ k ih =>
    intro j hj n acc hn
    obtain ⟨n, rfl⟩ : ∃ m, n = m + 1 := ⟨n - 1, by omega⟩
    unfold f_X4_trunksIn_87_p4
    rw [if_neg (show ¬ (5 : Int32) ≤ nI j from nI_ge (b := 5) (by omega) (by decide)), z_at_nI (by decide) (by omega), nI_1]
    unfold f_X4_isThere_87
    rw [z_at_nI (by decide) (by omega)]
    by_cases h1 : M 88 j = a
    · rw [if_pos h1]
      by_cases h2 : M 87 2 < M 89 j
      · rw [if_pos h2, z_bi_s, if_pos rfl]
        obtain ⟨y, hy, hb⟩ := ih (j + 1) (by omega) n acc (by omega)
        refine ⟨y, hy, fun u hu => ?_⟩
        rw [hb u hu]
        by_cases hu : u = j
        · rw [hu]; simp [h2]
        · rw [dec_sucq hu]
      · rw [if_neg h2, z_bi_s, if_neg (by decide)]
        obtain ⟨y, hy, hb⟩ := ih (j + 1) (by omega) n (acc ||| ((1 : Int32) <<< (nI j &&& 31))) (by omega)
        refine ⟨y, hy, fun u hu => ?_⟩
        rw [hb u hu, gb_ins (by omega) hu]
        by_cases hu : u = j
        · rw [hu]; simp [h1, h2, show j < 5 by omega]
        · rw [dec_sucq hu]; simp [hu]
    · rw [if_neg h1]
      obtain ⟨y, hy, hb⟩ := ih (j + 1) (by omega) n acc (by omega)
      refine ⟨y, hy, fun u hu => ?_⟩
      rw [hb u hu]
      by_cases hu : u = j
      · rw [hu]; simp [h1]
      · rw [dec_sucq hu]
theorem or0 (x : Int32) : x ||| (0 : Int32) = x := by
  apply gb_ext
  intro u hu
  rw [gb_or, gb_0, Bool.or_false]
theorem e_tr8 {M : zMM} {a : Int32} {N : Nat} (hN : M 109 1 = nI N) (hN5 : N ≤ 5) : ∀ k j, j + k = N → ∀ n acc, k < n → ∃ y, f_X8_trunksAt_107_p4 n a acc (nI j) M = some (y, M) ∧ ∀ u, u < 32 → gb y u = (gb acc u || decide (j ≤ u ∧ u < N ∧ M 124 u = a ∧ ¬ M 107 29 < M 125 u)) := by
  intro k
  induction k with
  | zero =>
    intro j hj n acc hn
    obtain ⟨n, rfl⟩ : ∃ m, n = m + 1 := ⟨n - 1, by omega⟩
    refine ⟨acc, if_pos (by rw [hN]; exact nI_le (by omega) (by omega)), fun u hu => ?_⟩
    rw [decide_eq_false (by omega), Bool.or_false]
  | succ k ih =>
    intro j hj n acc hn
    obtain ⟨n, rfl⟩ : ∃ m, n = m + 1 := ⟨n - 1, by omega⟩
    unfold f_X8_trunksAt_107_p4
    rw [hN, if_neg (nI_ge (by omega) (by omega)), if_pos (z_ib_n (by decide) (by omega)), nI_clamp (by omega), nI_1, or0]
    by_cases h1 : M 124 j = a
    · rw [if_pos h1, if_pos (z_ib_n (by decide) (by omega))]
      by_cases h2 : M 107 29 < M 125 j
      · rw [if_pos h2]
        obtain ⟨y, hy, hb⟩ := ih (j + 1) (by omega) n acc (by omega)
        refine ⟨y, hy, fun u hu => ?_⟩
        rw [hb u hu]
        by_cases hu : u = j
        · rw [hu]; simp [h2]
        · rw [dec_sucq hu]
      · rw [if_neg h2]
        obtain ⟨y, hy, hb⟩ := ih (j + 1) (by omega) n (acc ||| ((1 : Int32) <<< (nI j &&& 31))) (by omega)
        refine ⟨y, hy, fun u hu => ?_⟩
        rw [hb u hu, gb_ins (by omega) hu]
        by_cases hu : u = j
        · rw [hu]; simp [h1, h2, show j < N by omega]
        · rw [dec_sucq hu]; simp [hu]
    · rw [if_neg h1]
      obtain ⟨y, hy, hb⟩ := ih (j + 1) (by omega) n acc (by omega)
      refine ⟨y, hy, fun u hu => ?_⟩
      rw [hb u hu]
      by_cases hu : u = j
      · rw [hu]; simp [h1]
      · rw [dec_sucq hu]
/-- trunks in a town: one number on both sides -/
theorem e_trunks {k : Nat} {M M' : zMM} (hI : z_I k M) (hf : z_fr w_sk M M') {a : Nat} (ha : a < 5) : ∃ s, s < 32 ∧ f_X4_trunksIn_87 (nI a) M = some (nI s, M) ∧ f_X8_trunksAt_107 (nI a) M' = some (nI s, M') ∧ ∀ u, u < 5 → s.testBit u = decide (u < tk M ∧ M 124 u = nI a ∧ ¬ M 107 29 < M 125 u) := by
  obtain ⟨N, -, hN, hNc, hN5⟩ := hI.j_cnt.2.2.2.2.2.2.1.nI
  obtain ⟨y, hy, hb⟩ := e_tr7 (M := M) (a := nI a) 5 0 rfl z_fuel 0 (by decide)
  obtain ⟨z, hz, hc⟩ := e_tr8 (M := M') (a := nI a) (N := N) ((hf 109 1 rfl).trans hN) (by omega) N 0 (by omega) z_fuel 0 (by unfold z_fuel; omega)
  have etk : tk M = N := hNc
  have f1 : ∀ u, M' 124 u = M 124 u := fun u => hf 124 u rfl
  have f2 : ∀ u, M' 125 u = M 125 u := fun u => hf 125 u rfl
  have f3 : M' 107 29 = M 107 29 := hf 107 29 rfl
  simp only [f1, f2, f3] at hc
  have hyz : y = z := by
    apply gb_ext
    intro u hu
    rw [hb u hu, hc u hu]
    by_cases huN : u < N
    · obtain ⟨p1, -, -, p4, -⟩ := hI.j_place.1 u (by omega)
      rw [p1, p4, hI.j_day.1]
      simp [huN, show u < 5 by omega]
    · have r : decide (0 ≤ u ∧ u < N ∧ M 124 u = nI a ∧ ¬ M 107 29 < M 125 u) = false := decide_eq_false (fun q => huN q.2.1)
      have l : decide (0 ≤ u ∧ u < 5 ∧ M 88 u = nI a ∧ ¬ M 87 2 < M 89 u) = false := by
        apply decide_eq_false
        rintro ⟨-, h5, q, -⟩
        rw [hI.j_place.2 u (by omega) h5] at q
        exact nI_m1 (by omega) q.symm
      rw [r, l]
  rw [← hyz] at hz hc
  obtain ⟨s, hs, hys⟩ := gb_num (x := y) (b := 5) (by decide) (fun u h5 h32 => by
    rw [hc u h32, gb_0, Bool.false_or]
    exact decide_eq_false (fun q => by omega))
  rw [hys] at hy hz hc
  refine ⟨s, hs, hy, hz, fun u hu => ?_⟩
  rw [← gb_n (n := s) (u := u) (by omega), hc u (by omega), gb_0, Bool.false_or, etk]
  simp
theorem tL_fr {M M' : zMM} (hf : z_fr w_sk M M') (s : Nat) : tL M' s = tL M s := by
  unfold tL
  funext g
  rw [hf 109 2 rfl, hf 117 g rfl]
theorem z_bd_c5q {M : zMM} {t : Nat} (h0 : 0 ≤ (M 117 t).toInt) (h : (M 117 t).toNatClampNeg < 5) : ∃ h', h' < 5 ∧ M 117 t = nI h' ∧ (M 117 t).toNatClampNeg = h' := by
  obtain ⟨j, hj, e⟩ := nI_of (x := M 117 t) (by rw [Int32.lt_iff_toInt_lt]; show ¬ (M 117 t).toInt < 0; omega)
  rw [e, nI_clamp hj] at h
  exact ⟨j, h, e, by rw [e, nI_clamp hj]⟩
theorem e_th7 {k0 : Nat} {M : zMM} (hI : z_I k0 M) {s N : Nat} (hN : M 109 2 = nI N) (hN5 : N ≤ 10) : ∀ k j, j + k = N → ∀ n acc, k < n → ∃ y, f_X5_thingsOf_53_p4 n (nI s) acc (nI j) M = some (y, M) ∧ ∀ u, u < 32 → gb y u = (gb acc u || (decide (j ≤ u) && tL M s u)) := by
  have etg : tg M = N := by unfold tg; rw [hN, nI_clamp (by omega)]
  have hk5 := tk_le hI.j_cnt
  intro k
  induction k with
  | zero =>
    intro j hj n acc hn
    obtain ⟨n, rfl⟩ : ∃ m, n = m + 1 := ⟨n - 1, by omega⟩
    refine ⟨acc, if_pos (by rw [hI.j_cnt.2.2.1, hN]; exact nI_le (by omega) (by omega)), fun u hu => ?_⟩
    unfold tL
    rw [hN, nI_clamp (by omega)]
    by_cases h : j ≤ u
    · rw [decide_eq_false (p := u < N) (by omega), Bool.false_and, Bool.and_false, Bool.or_false]
    · rw [decide_eq_false h, Bool.false_and, Bool.or_false]
  | succ k ih =>
    intro j hj n acc hn
    obtain ⟨n, rfl⟩ : ∃ m, n = m + 1 := ⟨n - 1, by omega⟩
    unfold f_X5_thingsOf_53_p4
    obtain ⟨-, -, g3, g4, g5⟩ := hI.j_thing j (by omega)
    obtain ⟨h', hh5, hh, hhc⟩ := z_bd_c5q g4 (by omega)
    rw [hI.j_cnt.2.2.1, hN, if_neg (nI_ge (by omega) (by omega)), z_at_nI (by decide) (by omega), g3, hh, e_has (by omega), z_bi_s, nI_1, gb_n (by omega)]
    have etl : ∀ u, u = j → tL M s u = s.testBit h' := by
      intro u hu
      rw [hu]
      unfold tL
      rw [hN, nI_clamp (by omega), hhc, decide_eq_true (by omega), Bool.true_and]
    by_cases h1 : s.testBit h' = true
    · rw [if_pos h1, if_neg (by decide)]
      obtain ⟨y, hy, hb⟩ := ih (j + 1) (by omega) n (acc ||| ((1 : Int32) <<< (nI j &&& 31))) (by omega)
      refine ⟨y, hy, fun u hu => ?_⟩
      rw [hb u hu, gb_ins (by omega) hu]
      by_cases hu : u = j
      · rw [etl u hu, h1, hu]; simp
      · rw [dec_suc2q hu]; simp [hu]
    · rw [if_neg h1, if_pos rfl]
      obtain ⟨y, hy, hb⟩ := ih (j + 1) (by omega) n acc (by omega)
      refine ⟨y, hy, fun u hu => ?_⟩
      rw [hb u hu]
      by_cases hu : u = j
      · rw [etl u hu]; simp at h1; rw [h1]; simp
      · rw [dec_suc2q hu]
theorem e_th8 {k0 : Nat} {M : zMM} (hI : z_I k0 M) {s N : Nat} (hN : M 109 2 = nI N) (hN5 : N ≤ 10) : ∀ k j, j + k = N → ∀ n acc, k < n → ∃ y, f_X8_thingsOf_107_p4 n (nI s) acc (nI j) M = some (y, M) ∧ ∀ u, u < 32 → gb y u = (gb acc u || (decide (j ≤ u) && tL M s u)) := by
  have etg : tg M = N := by unfold tg; rw [hN, nI_clamp (by omega)]
  have hk5 := tk_le hI.j_cnt
  intro k
  induction k with
  | zero =>
    intro j hj n acc hn
    obtain ⟨n, rfl⟩ : ∃ m, n = m + 1 := ⟨n - 1, by omega⟩
    refine ⟨acc, if_pos (by rw [hN]; exact nI_le (by omega) (by omega)), fun u hu => ?_⟩
    unfold tL
    rw [hN, nI_clamp (by omega)]
    by_cases h : j ≤ u
    · rw [decide_eq_false (p := u < N) (by omega), Bool.false_and, Bool.and_false, Bool.or_false]
    · rw [decide_eq_false h, Bool.false_and, Bool.or_false]
  | succ k ih =>
    intro j hj n acc hn
    obtain ⟨n, rfl⟩ : ∃ m, n = m + 1 := ⟨n - 1, by omega⟩
    unfold f_X8_thingsOf_107_p4
    obtain ⟨-, -, g3, g4, g5⟩ := hI.j_thing j (by omega)
    obtain ⟨h', hh5, hh, hhc⟩ := z_bd_c5q g4 (by omega)
    rw [hN, if_neg (nI_ge (by omega) (by omega)), if_pos (z_ib_n (by decide) (by omega)), nI_clamp (by omega), hh, nI_1, or0]
    have etl : ∀ u, u = j → tL M s u = s.testBit h' := by
      intro u hu
      rw [hu]
      unfold tL
      rw [hN, nI_clamp (by omega), hhc, decide_eq_true (by omega), Bool.true_and]
    by_cases h1 : s.testBit h' = true
    · rw [if_pos ((e_sar1 (by omega)).mpr (by rw [gb_n (by omega)]; exact h1))]
      obtain ⟨y, hy, hb⟩ := ih (j + 1) (by omega) n (acc ||| ((1 : Int32) <<< (nI j &&& 31))) (by omega)
      refine ⟨y, hy, fun u hu => ?_⟩
      rw [hb u hu, gb_ins (by omega) hu]
      by_cases hu : u = j
      · rw [etl u hu, h1, hu]; simp
      · rw [dec_suc2q hu]; simp [hu]
    · rw [if_neg (fun q => h1 (by rw [← gb_n (n := s) (u := h') (by omega)]; exact (e_sar1 (by omega)).mp q))]
      obtain ⟨y, hy, hb⟩ := ih (j + 1) (by omega) n acc (by omega)
      refine ⟨y, hy, fun u hu => ?_⟩
      rw [hb u hu]
      by_cases hu : u = j
      · rw [etl u hu]; simp at h1; rw [h1]; simp
      · rw [dec_suc2q hu]
theorem e_things {k k' : Nat} {M M' : zMM} (hI : z_I k M) (hI' : z_I k' M') (hf : z_fr w_sk M M') (s : Nat) : ∃ y, f_X5_thingsOf_53 (nI s) M = some (y, M) ∧ f_X8_thingsOf_107 (nI s) M' = some (y, M') ∧ ∀ u, u < 32 → gb y u = tL M s u := by
  obtain ⟨N, -, hN, hNc, hN5⟩ := hI.j_cnt.2.2.2.2.2.2.2.1.nI
  obtain ⟨y, hy, hb⟩ := e_th7 hI (s := s) hN (by omega) N 0 (by omega) z_fuel 0 (by unfold z_fuel; omega)
  obtain ⟨z, hz, hc⟩ := e_th8 hI' (s := s) (N := N) ((hf 109 2 rfl).trans hN) (by omega) N 0 (by omega) z_fuel 0 (by unfold z_fuel; omega)
  rw [tL_fr hf] at hc
  have hyz : y = z := gb_ext (fun u hu => by rw [hb u hu, hc u hu])
  rw [← hyz] at hz hc
  refine ⟨y, hy, hz, fun u hu => ?_⟩
  rw [hb u hu, gb_0, decide_eq_true (show 0 ≤ u by omega), Bool.true_and, Bool.false_or]
theorem tL_lt {M : zMM} {s u : Nat} (h : tL M s u = true) : u < tg M := by
  unfold tL at h
  rw [Bool.and_eq_true, decide_eq_true_eq] at h
  exact h.1
