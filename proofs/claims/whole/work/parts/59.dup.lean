/-! ===== the model's tour over memories in which the class has its new plan already ===== -/
def z_B (k : Nat) (M : zMM) : Prop := j_tape M ∧ j_fault M ∧ j_cnt M ∧ j_town M ∧ j_train M ∧ j_thing M ∧ j_play M ∧ j_like M ∧ j_day k M ∧ j_seed M ∧ j_place k M ∧ j_night M ∧ j_stat M ∧ j_st1 M ∧ j_st2 M ∧ j_img k M ∧ j_past k M ∧ j_ways M ∧ j_known M
theorem z_B.j_tape {k : Nat} {M : zMM} (h : z_B k M) : j_tape M := h.1
theorem z_B.j_fault {k : Nat} {M : zMM} (h : z_B k M) : j_fault M := h.2.1
theorem z_B.j_cnt {k : Nat} {M : zMM} (h : z_B k M) : j_cnt M := h.2.2.1
theorem z_B.j_town {k : Nat} {M : zMM} (h : z_B k M) : j_town M := h.2.2.2.1
theorem z_B.j_train {k : Nat} {M : zMM} (h : z_B k M) : j_train M := h.2.2.2.2.1
theorem z_B.j_thing {k : Nat} {M : zMM} (h : z_B k M) : j_thing M := h.2.2.2.2.2.1
theorem z_B.j_play {k : Nat} {M : zMM} (h : z_B k M) : j_play M := h.2.2.2.2.2.2.1
theorem z_B.j_like {k : Nat} {M : zMM} (h : z_B k M) : j_like M := h.2.2.2.2.2.2.2.1
theorem z_B.j_day {k : Nat} {M : zMM} (h : z_B k M) : j_day k M := h.2.2.2.2.2.2.2.2.1
theorem z_B.j_seed {k : Nat} {M : zMM} (h : z_B k M) : j_seed M := h.2.2.2.2.2.2.2.2.2.1
theorem z_B.j_place {k : Nat} {M : zMM} (h : z_B k M) : j_place k M := h.2.2.2.2.2.2.2.2.2.2.1
theorem z_B.j_night {k : Nat} {M : zMM} (h : z_B k M) : j_night M := h.2.2.2.2.2.2.2.2.2.2.2.1
theorem z_B.j_stat {k : Nat} {M : zMM} (h : z_B k M) : j_stat M := h.2.2.2.2.2.2.2.2.2.2.2.2.1
theorem z_B.j_st1 {k : Nat} {M : zMM} (h : z_B k M) : j_st1 M := h.2.2.2.2.2.2.2.2.2.2.2.2.2.1
theorem z_B.j_st2 {k : Nat} {M : zMM} (h : z_B k M) : j_st2 M := h.2.2.2.2.2.2.2.2.2.2.2.2.2.2.1
theorem z_B.j_img {k : Nat} {M : zMM} (h : z_B k M) : j_img k M := h.2.2.2.2.2.2.2.2.2.2.2.2.2.2.2.1
theorem z_B.j_past {k : Nat} {M : zMM} (h : z_B k M) : j_past k M := h.2.2.2.2.2.2.2.2.2.2.2.2.2.2.2.2.1
theorem z_B.j_ways {k : Nat} {M : zMM} (h : z_B k M) : j_ways M := h.2.2.2.2.2.2.2.2.2.2.2.2.2.2.2.2.2.1
theorem z_B.j_known {k : Nat} {M : zMM} (h : z_B k M) : j_known M := h.2.2.2.2.2.2.2.2.2.2.2.2.2.2.2.2.2.2
theorem z_Bof {k : Nat} {M : zMM} (hI : z_I k M) : z_B k M := ⟨hI.j_tape, hI.j_fault, hI.j_cnt, hI.j_town, hI.j_train, hI.j_thing, hI.j_play, hI.j_like, hI.j_day, hI.j_seed, hI.j_place, hI.j_night, hI.j_stat, hI.j_st1, hI.j_st2, hI.j_img, hI.j_past, hI.j_ways, hI.j_known⟩
def w_c7b : zWs := ([(107, 1), (107, 38), (107, 52), (103, 7), (103, 8), (103, 9)], [82, 85, 86, 104, 105, 106, 128, 129, 139, 140, 141])
def w_k7b : zWs := ([(107, 1), (107, 38), (107, 52), (103, 7), (103, 8), (103, 9)], [82, 84, 85, 86, 104, 105, 106, 128, 129, 139, 140, 141])
theorem z_B.sc {k : Nat} {M M' : zMM} (hI : z_B k M) (hf : z_fr w_c7b M M') : z_B k M' := ⟨(hI.j_tape.fr (by decide) hf), (hI.j_fault.fr (by decide) hf), (hI.j_cnt.fr (by decide) hf), (hI.j_town.fr (by decide) hf), (hI.j_train.fr (by decide) hf), (hI.j_thing.fr (by decide) hf), (hI.j_play.fr (by decide) hf), (hI.j_like.fr (by decide) hf), (hI.j_day.fr (by decide) hf), (hI.j_seed.fr (by decide) hf), (hI.j_place.fr (by decide) hf), (hI.j_night.fr (by decide) hf), (hI.j_stat.fr (by decide) hf), (hI.j_st1.fr (by decide) hf), (hI.j_st2.fr (by decide) hf), (hI.j_img.fr (by decide) hf), (hI.j_past.fr (by decide) hf), (hI.j_ways.fr (by decide) hf), (hI.j_known.fr (by decide) hf)⟩
theorem z_Bkn {k : Nat} {M M' : zMM} (hI : z_B k M) (hf : z_fr w_k7b M M') (hk : j_known M') : z_B k M' := ⟨(hI.j_tape.fr (by decide) hf), (hI.j_fault.fr (by decide) hf), (hI.j_cnt.fr (by decide) hf), (hI.j_town.fr (by decide) hf), (hI.j_train.fr (by decide) hf), (hI.j_thing.fr (by decide) hf), (hI.j_play.fr (by decide) hf), (hI.j_like.fr (by decide) hf), (hI.j_day.fr (by decide) hf), (hI.j_seed.fr (by decide) hf), (hI.j_place.fr (by decide) hf), (hI.j_night.fr (by decide) hf), (hI.j_stat.fr (by decide) hf), (hI.j_st1.fr (by decide) hf), (hI.j_st2.fr (by decide) hf), (hI.j_img.fr (by decide) hf), (hI.j_past.fr (by decide) hf), (hI.j_ways.fr (by decide) hf), hk⟩
theorem sc_sk_B {M M' : zMM} (h : z_fr w_c7b M M') : z_fr w_k7b M M' := z_fr.refl.sub h (by decide)
theorem z_sub_sc_B {w : zWs} {M M' : zMM} (h : z_fr w M M') (hs : z_sub w w_c7b = true) : z_fr w_c7b M M' := z_fr.refl.sub h hs
theorem tL_fr_B {M M' : zMM} (hf : z_fr w_k7b M M') (s : Nat) : tL M' s = tL M s := by
  unfold tL
  funext g
  rw [hf 109 2 rfl, hf 117 g rfl]
theorem e_th7_B {k0 : Nat} {M : zMM} (hI : z_B k0 M) {s N : Nat} (hN : M 109 2 = nI N) (hN5 : N ≤ 10) : ∀ k j, j + k = N → ∀ n acc, k < n → ∃ y, f_X5_thingsOf_53_p4 n (nI s) acc (nI j) M = some (y, M) ∧ ∀ u, u < 32 → gb y u = (gb acc u || (decide (j ≤ u) && tL M s u)) := by
  have etg : tg M = N := by unfold tg; rw [hN, nI_clamp (by omega)]
  have hk5 := tk_le hI.j_cnt
  intro k
  induction k with
  | zero =>
    intro j hj n acc hn
    obtain ⟨n, rfl⟩ : ∃ m, n = m + 1 := ⟨n - 1, by omega⟩
    refine ⟨acc, if_pos (by rw [hI.j_cnt.2.2.1, hN]; exact nI_le (by omega) (by omega)), fun u hu => ?_⟩
    unfold tL
    rw [hN, nI_clamp (by omega)]
    by_cases h : j ≤ u
    · rw [decide_eq_false (p := u < N) (by omega), Bool.false_and, Bool.and_false, Bool.or_false]
    · rw [decide_eq_false h, Bool.false_and, Bool.or_false]
  | succ k ih =>
    intro j hj n acc hn
    obtain ⟨n, rfl⟩ : ∃ m, n = m + 1 := ⟨n - 1, by omega⟩
    unfold f_X5_thingsOf_53_p4
    obtain ⟨-, -, g3, g4, g5⟩ := hI.j_thing j (by omega)
    obtain ⟨h', hh5, hh, hhc⟩ := z_bd_c5q g4 (by omega)
    rw [hI.j_cnt.2.2.1, hN, if_neg (nI_ge (by omega) (by omega)), z_at_nI (by decide) (by omega), g3, hh, e_has (by omega), z_bi_s, nI_1, gb_n (by omega)]
    have etl : ∀ u, u = j → tL M s u = s.testBit h' := by
      intro u hu
      rw [hu]
      unfold tL
      rw [hN, nI_clamp (by omega), hhc, decide_eq_true (by omega), Bool.true_and]
    by_cases h1 : s.testBit h' = true
    · rw [if_pos h1, if_neg (by decide)]
      obtain ⟨y, hy, hb⟩ := ih (j + 1) (by omega) n (acc ||| ((1 : Int32) <<< (nI j &&& 31))) (by omega)
      refine ⟨y, hy, fun u hu => ?_⟩
      rw [hb u hu, gb_ins (by omega) hu]
      by_cases hu : u = j
      · rw [etl u hu, h1, hu]; simp
      · rw [dec_suc2q hu]; simp [hu]
    · rw [if_neg h1, if_pos rfl]
      obtain ⟨y, hy, hb⟩ := ih (j + 1) (by omega) n acc (by omega)
      refine ⟨y, hy, fun u hu => ?_⟩
      rw [hb u hu]
      by_cases hu : u = j
      · rw [etl u hu]; simp at h1; rw [h1]; simp
      · rw [dec_suc2q hu]
theorem e_th8_B {k0 : Nat} {M : zMM} (hI : z_B k0 M) {s N : Nat} (hN : M 109 2 = nI N) (hN5 : N ≤ 10) : ∀ k j, j + k = N → ∀ n acc, k < n → ∃ y, f_X8_thingsOf_107_p4 n (nI s) acc (nI j) M = some (y, M) ∧ ∀ u, u < 32 → gb y u = (gb acc u || (decide (j ≤ u) && tL M s u)) := by
  have etg : tg M = N := by unfold tg; rw [hN, nI_clamp (by omega)]
  have hk5 := tk_le hI.j_cnt
  intro k
  induction k with
  | zero =>
    intro j hj n acc hn
    obtain ⟨n, rfl⟩ : ∃ m, n = m + 1 := ⟨n - 1, by omega⟩
    refine ⟨acc, if_pos (by rw [hN]; exact nI_le (by omega) (by omega)), fun u hu => ?_⟩
    unfold tL
    rw [hN, nI_clamp (by omega)]
    by_cases h : j ≤ u
    · rw [decide_eq_false (p := u < N) (by omega), Bool.false_and, Bool.and_false, Bool.or_false]
    · rw [decide_eq_false h, Bool.false_and, Bool.or_false]
  | succ k ih =>
    intro j hj n acc hn
    obtain ⟨n, rfl⟩ : ∃ m, n = m + 1 := ⟨n - 1, by omega⟩
    unfold f_X8_thingsOf_107_p4
    obtain ⟨-, -, g3, g4, g5⟩ := hI.j_thing j (by omega)
    obtain ⟨h', hh5, hh, hhc⟩ := z_bd_c5q g4 (by omega)
    rw [hN, if_neg (nI_ge (by omega) (by omega)), if_pos (z_ib_n (by decide) (by omega)), nI_clamp (by omega), hh, nI_1, or0]
    have etl : ∀ u, u = j → tL M s u = s.testBit h' := by
      intro u hu
      rw [hu]
      unfold tL
      rw [hN, nI_clamp (by omega), hhc, decide_eq_true (by omega), Bool.true_and]
    by_cases h1 : s.testBit h' = true
    · rw [if_pos ((e_sar1 (by omega)).mpr (by rw [gb_n (by omega)]; exact h1))]
      obtain ⟨y, hy, hb⟩ := ih (j + 1) (by omega) n (acc ||| ((1 : Int32) <<< (nI j &&& 31))) (by omega)
      refine ⟨y, hy, fun u hu => ?_⟩
      rw [hb u hu, gb_ins (by omega) hu]
      by_cases hu : u = j
      · rw [etl u hu, h1, hu]; simp
      · rw [dec_suc2q hu]; simp [hu]
    · rw [if_neg (fun q => h1 (by rw [← gb_n (n := s) (u := h') (by omega)]; exact (e_sar1 (by omega)).mp q))]
      obtain ⟨y, hy, hb⟩ := ih (j + 1) (by omega) n acc (by omega)
      refine ⟨y, hy, fun u hu => ?_⟩
      rw [hb u hu]
      by_cases hu : u = j
      · rw [etl u hu]; simp at h1; rw [h1]; simp
      · rw [dec_suc2q hu]
theorem e_things_B {k k' : Nat} {M M' : zMM} (hI : z_B k M) (hI' : z_B k' M') (hf : z_fr w_k7b M M') (s : Nat) : ∃ y, f_X5_thingsOf_53 (nI s) M = some (y, M) ∧ f_X8_thingsOf_107 (nI s) M' = some (y, M') ∧ ∀ u, u < 32 → gb y u = tL M s u := by
  obtain ⟨N, -, hN, hNc, hN5⟩ := hI.j_cnt.2.2.2.2.2.2.2.1.nI
  obtain ⟨y, hy, hb⟩ := e_th7_B hI (s := s) hN (by omega) N 0 (by omega) z_fuel 0 (by unfold z_fuel; omega)
  obtain ⟨z, hz, hc⟩ := e_th8_B hI' (s := s) (N := N) ((hf 109 2 rfl).trans hN) (by omega) N 0 (by omega) z_fuel 0 (by unfold z_fuel; omega)
  rw [tL_fr_B hf] at hc
  have hyz : y = z := gb_ext (fun u hu => by rw [hb u hu, hc u hu])
  rw [← hyz] at hz hc
  refine ⟨y, hy, hz, fun u hu => ?_⟩
  rw [hb u hu, gb_0, decide_eq_true (show 0 ≤ u by omega), Bool.true_and, Bool.false_or]
theorem e_way_B {k : Nat} {M : zMM} (hI : z_B k M) {a b : Nat} (ha : a < tw M) (hb : b < tw M) : a < 5 ∧ b < 5 ∧ M 126 (5 * a + b) = nI (wd M a b) ∧ ((wd M a b = 1000000 ∧ M 81 (5 * a + b) = -1) ∨ (wd M a b < 1000 ∧ M 81 (5 * a + b) = nI (wd M a b))) := by
  have h5 := tw_le hI.j_cnt
  exact ⟨by omega, by omega, (hI.j_ways (by omega)).1 a (by omega) b (by omega)⟩
theorem wd_fr_B {M M' : zMM} (hf : z_fr w_k7b M M') (a b : Nat) : wd M' a b = wd M a b := by
  unfold wd; rw [hf 126 _ rfl]
theorem e_play_B {k : Nat} {M : zMM} (hI : z_B k M) {p : Nat} (hp : p < tp M) : p < 4 ∧ M 63 p = nI (nm_ M p) ∧ M 120 p = nI (nm_ M p) ∧ 1 ≤ nm_ M p ∧ nm_ M p ≤ 4 ∧ ∀ j, j < nm_ M p → M 64 (4 * p + j) = nI (nd_ M p j) ∧ M 119 (4 * p + j) = nI (nd_ M p j) ∧ nd_ M p j < 20 := by
  have h4 := tp_le hI.j_cnt
  obtain ⟨h1, h2, h3, h5, h6⟩ := hI.j_play p hp
  obtain ⟨m, hm, e1, e2, e3⟩ := (show z_bd (M 120 p) 0 4 from ⟨by have := h5.1; omega, h5.2⟩).nI
  have en : nm_ M p = m := e2
  have h51 := h5.1
  rw [e1, nI_toInt hm] at h51
  refine ⟨by omega, by rw [h3, en]; exact e1, by rw [en]; exact e1, by omega, by omega, fun j hj => ?_⟩
  obtain ⟨g1, g2⟩ := h6 j hj
  obtain ⟨v, hv, f1, f2, f3⟩ := g2.nI
  have ed : nd_ M p j = v := f2
  rw [ed]
  exact ⟨g1.trans f1, f1, by omega⟩
theorem e_town_B {k : Nat} {M : zMM} (hI : z_B k M) {t : Nat} (ht : t < tw M) : t < 5 ∧ M 56 t = nI (M 112 t).toNatClampNeg ∧ M 112 t = nI (M 112 t).toNatClampNeg ∧ (M 112 t).toNatClampNeg ≤ 9 ∧ M 57 t = nI (M 113 t).toNatClampNeg ∧ M 113 t = nI (M 113 t).toNatClampNeg ∧ (M 113 t).toNatClampNeg ≤ 99 := by
  have h5 := tw_le hI.j_cnt
  obtain ⟨t1, t2, t3, t4, t5, t6, t7, t8, t9⟩ := hI.j_town t ht
  obtain ⟨a, ha, e1, e2, e3⟩ := t6.nI
  obtain ⟨b, hb, f1, f2, f3⟩ := t8.nI
  rw [e2, f2, t5, t7]
  exact ⟨by omega, e1, e1, by omega, f1, f1, by omega⟩
theorem e_thing_B {k : Nat} {M : zMM} (hI : z_B k M) {g : Nat} (hg : g < tg M) : g < 10 ∧ M 60 g = nI (so_ M g) ∧ M 116 g = nI (so_ M g) ∧ so_ M g < 20 := by
  have h5 := tg_le hI.j_cnt
  obtain ⟨t1, t2, -⟩ := hI.j_thing g hg
  obtain ⟨a, ha, e1, e2, e3⟩ := t2.nI
  have e : so_ M g = a := e2
  rw [e, t1]
  exact ⟨by omega, e1, e1, by omega⟩
theorem e_stands_B {k0 : Nat} {M0 M : zMM} (hI : z_B k0 M0) (hf : z_fr ([(107, 38)], [128, 129]) M0 M) (hp0 : 0 < tp M0) {t b : Nat} {so : Nat → Nat} (ht : t < 11) (hs : M0 116 t = nI (so t)) (hs2 : so t < 20) (hb : b < 20) : f_X8_standsFor_107 (nI t) (nI b) M = some (sv (sm_ M0 (so t) b), M) := by
  have ib : z_ib (nI t) 22 = true := z_ib_n (by decide) (by omega)
  obtain ⟨s1, s2, s3⟩ := sm_le (hI.j_like hp0) hs2 hb
  unfold f_X8_standsFor_107
  rw [if_pos ib, nI_clamp (by omega), hf 116 t rfl, hs]
  by_cases h : so t = b
  · rw [if_pos (by rw [h]), show sm_ M0 (so t) b = 0 from if_pos h]; rfl
  · rw [if_neg (fun z => h ((nI_eq (by omega) (by omega)).mp z)), if_pos ib, show (20 : Int32) * nI (so t) = nI (20 * so t) from nI_mul 20 _, nI_add, if_pos (z_ib_n (by decide) (by omega)), nI_clamp (by omega), hf 121 _ rfl, s3 h]
theorem e_fillOn_B {k0 : Nat} {M0 : zMM} (hI : z_B k0 M0) {p t : Nat} (hp : p < tp M0) (ht : t < tw M0) {so : Nat → Nat} :
    ∀ k i, i + k = nm_ M0 p → ∀ D, k < D → ∀ (y : Int32) (L : Nat → Bool) (lent price b : Nat) (M : zMM), z_fr ([(107, 38)], [128, 129]) M0 M → (∀ u, u < 11 → gb y u = L u) → (∀ u, u < 11 → L u = true → M0 116 u = nI (so u) ∧ so u < 20) → lent ≤ (M0 112 t).toNatClampNeg → price ≤ 99 * i → b ≤ 1000000 → M 107 38 = nI b →
    ∃ M', f_X8_fillOn_107 D (nI p) (nI t) (nI i) y (nI lent) (nI price) M = some M' ∧ fo (zq M0 so p) (M0 113 t).toNatClampNeg k i L ((M0 112 t).toNatClampNeg - lent) price b M M' := by
  obtain ⟨p4, q1, q2, q3, q4, q5⟩ := e_play_B hI hp
  obtain ⟨t5, w1, w2, w3, w4, w5, w6⟩ := e_town_B hI ht
  intro k
  induction k with
  | zero =>
    intro i hi D hD y L lent price b M hf hy hL hl hpr hb hM
    obtain ⟨D, rfl⟩ : ∃ m, D = m + 1 := ⟨D - 1, by omega⟩
    unfold f_X8_fillOn_107
    rw [hM]
    by_cases hlt : price < b
    · rw [if_pos (nI_lt hlt (by omega)), if_pos (z_ib_n (by decide) (by omega)), nI_clamp (by omega), hf 120 p rfl, q2, if_pos (by rw [show i = nm_ M0 p by omega])]
      obtain ⟨M', e1, e2, e3, e4⟩ := e_p29 (S := f_X8_fillOn_107 D) (i := i) (by omega) i 0 (by omega) z_fuel (z_up M 107 38 (nI price)) (by unfold z_fuel; omega)
      refine ⟨M', e1, fun j hj => (e4 128 j (by decide)).trans (z_up_o (by decide)), price, by omega, ?_, fun u hu => by omega, Or.inr ⟨hlt, 0, rfl, fun j hj => (e2 j (by omega) hj).trans (z_up_o (by decide)), rfl⟩⟩
      rw [e4 107 38 (by decide), z_up_s]
    · rw [if_neg (nI_nlt (by omega) (by omega))]
      exact ⟨M, rfl, fun _ _ => rfl, b, Nat.le_refl _, hM, fun u hu => by omega, Or.inl ⟨rfl, fun _ => rfl⟩⟩
  | succ k ih =>
    intro i hi D hD y L lent price b0 M hf hy hL hl hpr hb0 hM
    obtain ⟨D, rfl⟩ : ∃ m, D = m + 1 := ⟨D - 1, by omega⟩
    unfold f_X8_fillOn_107
    rw [hM]
    by_cases hlt : price < b0
    · rw [if_pos (nI_lt hlt (by omega)), if_pos (z_ib_n (by decide) (by omega)), nI_clamp (by omega), hf 120 p rfl, q2, if_neg (fun z => by
        have := (nI_eq (by omega) (by omega)).mp z
        omega)]
      obtain ⟨d1, d2, d3⟩ := q5 i (by omega)
      have hq : ∀ u, zq M0 so p u i = sm_ M0 (so u) (nd_ M0 p i) := fun u => rfl
      generalize hl' : (M0 112 t).toNatClampNeg - lent = l
      generalize hc' : (M0 113 t).toNatClampNeg = c at *
      have loop : ∀ r x, x + r = 11 → ∀ fu Mt, r < fu → z_fr ([(107, 38)], [128, 129]) M0 Mt → (∀ j, j < i → Mt 128 j = M 128 j) → (∃ b, b ≤ b0 ∧ Mt 107 38 = nI b ∧ (∀ u v, u < x → op1 (zq M0 so p) c k i L l u v → b ≤ price + v) ∧ ((b = b0 ∧ ∀ j, Mt 129 j = M 129 j) ∨ (b < b0 ∧ ∃ v, b = price + v ∧ (∀ j, j < i → Mt 129 j = M 128 j) ∧ ∃ t' w, t' < x ∧ L t' = true ∧ zq M0 so p t' i < 100 ∧ v = zq M0 so p t' i + w ∧ (∀ u, u < t' → ¬ op1 (zq M0 so p) c k i L l u v) ∧ Mt 129 i = nI t' ∧ FF (zq M0 so p) c k (i + 1) (fun z => L z && !decide (z = t')) l w (Mt 129)))) →
          ∃ M', f_X8_fillOn_107_p59 (f_X8_fillOn_107 D) fu (nI p) (nI t) (nI i) y (nI lent) (nI price) (nI x) Mt = some M' ∧ fo (zq M0 so p) c (k + 1) i L l price b0 M M' := by
        intro r
        induction r with
        | zero =>
          intro x hx fu Mt hr hft h128 hinv
          obtain ⟨fu, rfl⟩ : ∃ m, fu = m + 1 := ⟨fu - 1, by omega⟩
          have hx11 : x = 11 := by omega
          rw [hx11] at hinv ⊢
          obtain ⟨b, hb1, hb2, hb3, hb4⟩ := hinv
          unfold f_X8_fillOn_107_p59
          have ib : z_ib (nI t) 10 = true := z_ib_n (by decide) (by omega)
          rw [if_pos (show (10 : Int32) < nI 11 by decide), if_pos ib, nI_clamp (by omega), hft 112 t rfl, w2]
          by_cases hle : lent = (M0 112 t).toNatClampNeg
          · rw [if_pos (by rw [hle])]
            have hl0 : l = 0 := by omega
            refine ⟨Mt, rfl, h128, b, hb1, hb2, fun u hu => ?_, ?_⟩
            · rcases zR_opq.mp hu with ⟨u', h1, h2⟩ | ⟨h1, _⟩
              · exact hb3 u' u h1 h2
              · omega
            · rcases hb4 with h | ⟨h1, v, h2, h3, t', w, h4⟩
              · exact Or.inl h
              · exact Or.inr ⟨h1, v, h2, h3, Or.inl ⟨t', w, h4⟩⟩
          · rw [if_neg (fun z => hle ((nI_eq (by omega) (by omega)).mp z)), if_pos (z_ib_n (by decide) (by omega)), if_pos ib, nI_clamp (by omega), hft 113 t rfl, w5, nI_1, nI_1, nI_add]
            obtain ⟨M', e1, f1, b', f2, f3, f4, f5⟩ := ih (i + 1) (by omega) D (by omega) y L (lent + 1) (price + c) b (z_up Mt 128 i 99) (hft.up rfl) hy hL (by omega) (by omega) (by omega) ((z_up_o (by decide)).trans hb2)
            rw [Nat.sub_add_eq, hl'] at f4 f5
            rw [show f_X8_fillOn_107 D (nI p) (nI t) (nI (i + 1)) y (nI (lent + 1)) (nI (price + c)) (z_up Mt 128 i (99 : Int32)) = some M' from e1, z_bv_s]
            refine ⟨M', rfl, fun j hj => ?_, b', by omega, f3, fun u hu => ?_, ?_⟩
            · rw [f1 j (by omega), z_up_n (by omega)]; exact h128 j hj
            · rcases zR_opq.mp hu with ⟨u', h1, h2⟩ | ⟨h1, w, h2, h3⟩
              · have := hb3 u' u h1 h2; omega
              · have := f4 w h3; omega
            · rcases f5 with ⟨g1, g2⟩ | ⟨g1, v, g2, g3, g4⟩
              · have g2' : ∀ j, M' 129 j = Mt 129 j := fun j => (g2 j).trans (z_up_o (by decide))
                rw [g1]
                rcases hb4 with ⟨h1, h2⟩ | ⟨h1, v, h2, h3, t', w, h4, h5, h6, h7, h8, h9, h10⟩
                · exact Or.inl ⟨h1, fun j => (g2' j).trans (h2 j)⟩
                · exact Or.inr ⟨h1, v, h2, fun j hj => (g2' j).trans (h3 j hj), Or.inl ⟨t', w, h4, h5, h6, h7, h8, (g2' i).trans h9, FF_cgq (fun j _ _ => (g2' j).symm) h10⟩⟩
              · refine Or.inr ⟨by omega, c + v, by omega, fun j hj => ?_, Or.inr ⟨fun u hu hop => ?_, by omega, v, rfl, ?_, g4⟩⟩
                · rw [g3 j (by omega), z_up_n (by omega)]; exact h128 j hj
                · have := hb3 u _ hu hop; omega
                · rw [g3 i (by omega), z_up_s]
        | succ r ihr =>
          intro x hx fu Mt hr hft h128 hinv
          obtain ⟨fu, rfl⟩ : ∃ m, fu = m + 1 := ⟨fu - 1, by omega⟩
          obtain ⟨b, hb1, hb2, hb3, hb4⟩ := hinv
          unfold f_X8_fillOn_107_p59
          rw [if_neg (show ¬ (10 : Int32) < nI x from nI_nlt (a := 10) (by omega) (by decide)), nI_1]
          have skip : (L x = true → zq M0 so p x i < 100 → False) → ∃ M', f_X8_fillOn_107_p59 (f_X8_fillOn_107 D) fu (nI p) (nI t) (nI i) y (nI lent) (nI price) (nI (x + 1)) Mt = some M' ∧ fo (zq M0 so p) c (k + 1) i L l price b0 M M' := by
            intro hno
            refine ihr (x + 1) (by omega) fu Mt (by omega) hft h128 ⟨b, hb1, hb2, fun u v hu hop => ?_, ?_⟩
            · by_cases hux : u = x
              · rw [hux] at hop; exact (hno hop.1 hop.2.1).elim
              · exact hb3 u v (by omega) hop
            · rcases hb4 with h | ⟨h1, v, h2, h3, t', w, h4, h5⟩
              · exact Or.inl h
              · exact Or.inr ⟨h1, v, h2, h3, t', w, by omega, h5⟩
          by_cases hLx : L x = true
          · obtain ⟨sx1, sx2⟩ := hL x (by omega) hLx
            rw [if_neg (fun z => by rw [e_sar0 (by omega), hy x (by omega), hLx] at z; exact absurd z (by decide)), show (4 : Int32) * nI p = nI (4 * p) from nI_mul 4 p, nI_add, if_pos (z_ib_n (by decide) (by omega)), nI_clamp (by omega), hft 119 _ rfl, d2, e_stands_B hI hft (by omega) (by omega) sx1 sx2 d3, z_bi_s]
            by_cases hqx : sm_ M0 (so x) (nd_ M0 p i) < 100
            · rw [if_neg (fun z => by have := sv_m1.mp z; omega), sv_lt hqx, if_pos (z_ib_n (by decide) (by omega)), nI_clamp (by omega), nI_1, nI_add]
              obtain ⟨M', e1, f1, b', f2, f3, f4, f5⟩ := ih (i + 1) (by omega) D (by omega) (y &&& (((1 : Int32) <<< (nI x &&& 31)) ^^^ (-1 : Int32))) (fun z => L z && !decide (z = x)) lent (price + sm_ M0 (so x) (nd_ M0 p i)) b (z_up Mt 128 i (nI x)) (hft.up rfl) (fun u hu => by rw [gb_rem (by omega) (by omega), hy u hu]) (fun u hu hLu => hL u hu (by rw [Bool.and_eq_true] at hLu; exact hLu.1)) hl (by omega) (by omega) ((z_up_o (by decide)).trans hb2)
              rw [hl'] at f4 f5
              rw [show f_X8_fillOn_107 D (nI p) (nI t) (nI (i + 1)) (y &&& (((1 : Int32) <<< (nI x &&& 31)) ^^^ (-1 : Int32))) (nI lent) (nI (price + sm_ M0 (so x) (nd_ M0 p i))) (z_up Mt 128 i (nI x)) = some M' from e1, z_bv_s]
              have hf' : z_fr ([(107, 38)], [128, 129]) M0 M' := (hft.up rfl).sub (R_X8_fillOn_107 e1) (by decide)
              refine ihr (x + 1) (by omega) fu M' (by omega) hf' (fun j hj => by rw [f1 j (by omega), z_up_n (by omega)]; exact h128 j hj) ⟨b', by omega, f3, fun u v hu hop => ?_, ?_⟩
              · by_cases hux : u = x
                · obtain ⟨-, -, w, h2, h3⟩ := hop
                  rw [hux] at h2 h3
                  have := f4 w h3
                  rw [hq x] at h2
                  omega
                · have := hb3 u v (by omega) hop; omega
              · rcases f5 with ⟨g1, g2⟩ | ⟨g1, v, g2, g3, g4⟩
                · have g2' : ∀ j, M' 129 j = Mt 129 j := fun j => (g2 j).trans (z_up_o (by decide))
                  rw [g1]
                  rcases hb4 with ⟨h1, h2⟩ | ⟨h1, v, h2, h3, t', w, h4, h5, h6, h7, h8, h9, h10⟩
                  · exact Or.inl ⟨h1, fun j => (g2' j).trans (h2 j)⟩
                  · exact Or.inr ⟨h1, v, h2, fun j hj => (g2' j).trans (h3 j hj), t', w, by omega, h5, h6, h7, h8, (g2' i).trans h9, FF_cgq (fun j _ _ => (g2' j).symm) h10⟩
                · refine Or.inr ⟨by omega, sm_ M0 (so x) (nd_ M0 p i) + v, by omega, fun j hj => ?_, x, v, by omega, hLx, hqx, rfl, fun u hu hop => ?_, ?_, g4⟩
                  · rw [g3 j (by omega), z_up_n (by omega)]; exact h128 j hj
                  · have := hb3 u _ hu hop; omega
                  · rw [g3 i (by omega), z_up_s]
            · rw [if_pos (sv_m1.mpr (by omega))]
              exact skip (fun _ z => hqx z)
          · rw [if_pos ((e_sar0 (by omega)).mpr (by rw [hy x (by omega)]; simpa using hLx))]
            exact skip (fun z _ => hLx z)
      have h0 := loop 11 0 (by omega) z_fuel M (by unfold z_fuel; omega) hf (fun _ _ => rfl) ⟨b0, Nat.le_refl _, hM, fun u v hu => absurd hu (by omega), Or.inl ⟨rfl, fun _ => rfl⟩⟩
      exact h0
    · rw [if_neg (nI_nlt (by omega) (by omega))]
      exact ⟨M, rfl, fun _ _ => rfl, b0, Nat.le_refl _, hM, fun u hu => by omega, Or.inl ⟨rfl, fun _ => rfl⟩⟩
theorem e_priceOf_B {k0 : Nat} {M0 : zMM} (hI : z_B k0 M0) {p t : Nat} (hp : p < tp M0) (ht : t < tw M0) {so : Nat → Nat} {y : Int32} {L : Nat → Bool} (hy : ∀ u, u < 11 → gb y u = L u) (hL : ∀ u, u < 11 → L u = true → M0 116 u = nI (so u) ∧ so u < 20) :
    ∃ x M', f_X8_priceOf_107 (nI p) (nI t) y M0 = some (x, M') ∧ z_ls (zP M0 so p t L) x ∧ (∀ v, x = nI v → v < 10000 → FF (zq M0 so p) (M0 113 t).toNatClampNeg (nm_ M0 p) 0 L (M0 112 t).toNatClampNeg v (M' 129)) := by
  obtain ⟨p4, q1, q2, q3, q4, q5⟩ := e_play_B hI hp
  obtain ⟨t5, w1, w2, w3, w4, w5, w6⟩ := e_town_B hI ht
  have hI1 : z_B k0 (z_up M0 107 38 (1000000 : Int32)) := hI.sc (z_fr.refl.up rfl)
  have e1 : zq (z_up M0 107 38 (1000000 : Int32)) so p = zq M0 so p := rfl
  obtain ⟨M', a1, a2, b', a3, a4, a5, a6⟩ := e_fillOn_B hI1 (p := p) (t := t) hp ht (so := so) (nm_ M0 p) 0 (by show 0 + nm_ M0 p = nm_ M0 p; omega) 8 (by omega) y L 0 0 1000000 (z_up M0 107 38 (1000000 : Int32)) z_fr.refl hy hL (by omega) (by omega) (by omega) z_up_s
  unfold f_X8_priceOf_107
  rw [show f_X8_fillOn_107 8 (nI p) (nI t) (0 : Int32) y (0 : Int32) (0 : Int32) (z_up M0 107 38 (1000000 : Int32)) = some M' from a1, z_bv_s, a4]
  rcases a6 with ⟨h1, h2⟩ | ⟨h1, v, h2, h3, h4⟩
  · rw [h1, if_pos (show nI 1000000 = (1000000 : Int32) from rfl)]
    refine ⟨-1, M', rfl, z_ls.none (fun v hv => ?_), fun v hv hv2 => absurd hv.symm (nI_m1 (by omega))⟩
    have e := a5 v hv
    have := zR_bd (show (M0 113 t).toNatClampNeg < 100 by omega) hv
    have : (M0 120 p).toNatClampNeg = nm_ M0 p := rfl
    omega
  · have hz : zR (zq M0 so p) (M0 113 t).toNatClampNeg (nm_ M0 p) 0 L (M0 112 t).toNatClampNeg v := FF_zRq h4
    have := zR_bd (show (M0 113 t).toNatClampNeg < 100 by omega) hz
    rw [if_neg (show ¬ nI b' = (1000000 : Int32) from fun z => by
      have := (nI_eq (a := b') (b := 1000000) (by omega) (by decide)).mp z
      omega)]
    refine ⟨nI b', M', rfl, Or.inr ⟨v, by rw [h2, Nat.zero_add], by omega, hz, fun w hw => ?_⟩, fun v' e' hv' => ?_⟩
    · have := a5 w hw; omega
    · have := (nI_eq (by omega) (by omega)).mp e'
      have : v' = v := by omega
      rw [this]; exact h4
theorem zPfrq_B {M M' : zMM} (hf : z_fr w_k7b M M') (p t s : Nat) : zP M' (so_ M') p t (tL M' s) = zP M (so_ M) p t (tL M s) := by
  have e2 : so_ M' = so_ M := by
    funext t
    unfold so_
    rw [hf 116 t rfl]
  have e3 : zq M' (so_ M) p = zq M (so_ M) p := by
    funext t j
    show sm_ M' (so_ M t) (nd_ M' p j) = sm_ M (so_ M t) (nd_ M p j)
    have e : nd_ M' p j = nd_ M p j := by unfold nd_; rw [hf 119 _ rfl]
    rw [e]
    unfold sm_
    rw [hf 121 _ rfl]
  rw [e2, tL_fr_B hf]
  unfold zP
  rw [e3, hf 113 t rfl, hf 120 p rfl, hf 112 t rfl]
theorem cntfrq_B {M M' : zMM} (hf : z_fr w_k7b M M') : tw M' = tw M ∧ tk M' = tk M ∧ tg M' = tg M ∧ tp M' = tp M := by
  unfold tw tk tg tp
  rw [hf 109 0 rfl, hf 109 1 rfl, hf 109 2 rfl, hf 109 3 rfl]
  exact ⟨rfl, rfl, rfl, rfl⟩
theorem e_mTr_B {k : Nat} {M : zMM} (hI : z_B k M) {p t s : Nat} {y : Int32} (hp : p < tp M) (ht : t < tw M) (hy : ∀ u, u < 32 → gb y u = tL M s u) : ∃ x M', f_X8_priceOf_107 (nI p) (nI t) y M = some (x, M') ∧ z_ls (zP M (so_ M) p t (tL M s)) x ∧ z_B k M' ∧ z_fr w_k7b M M' ∧ M' 107 1 = M 107 1 := by
  obtain ⟨x, M', a1, a2, -⟩ := e_priceOf_B hI (p := p) (t := t) (so := so_ M) (y := y) (L := tL M s) hp ht (fun u hu => hy u (by omega)) (fun u hu hL => by
    obtain ⟨-, -, g3, g4⟩ := e_thing_B hI (tL_lt hL)
    exact ⟨g3, g4⟩)
  have hf : z_fr w_c7b M M' := z_sub_sc_B (R_X8_priceOf_107 a1) (by decide)
  exact ⟨x, M', a1, a2, hI.sc hf, sc_sk_B hf, R_X8_priceOf_107 a1 107 1 rfl⟩
theorem e_night_B {k : Nat} {M : zMM} (hI : z_B k M) {n : Nat} (hn : n < ni M) : n < 4 ∧ M 90 n = nI (nD M n) ∧ M 136 n = nI (nD M n) ∧ nD M n ≤ 99 ∧ M 91 n = nI (nT M n) ∧ M 137 n = nI (nT M n) ∧ nT M n < tw M ∧ M 92 n = nI (nP M n) ∧ M 138 n = nI (nP M n) ∧ nP M n < tp M := by
  obtain ⟨h1, h2, h3, h4⟩ := hI.j_night
  obtain ⟨m, hm, e1, e2, e3⟩ := h2.nI
  have en : ni M = m := e2
  obtain ⟨g1, g2, g3, g4, g5, g6, g7, g8⟩ := h3 n hn
  obtain ⟨v, hv, f1, f2, f3⟩ := g2.nI
  have d1 : nD M n = v := f2
  obtain ⟨w, hw, e4⟩ := nI_of (x := M 137 n) (by rw [Int32.lt_iff_toInt_lt]; show ¬ (M 137 n).toInt < 0; omega)
  obtain ⟨w', hw', e5⟩ := nI_of (x := M 138 n) (by rw [Int32.lt_iff_toInt_lt]; show ¬ (M 138 n).toInt < 0; omega)
  have d2 : nT M n = w := by unfold nT; rw [e4, nI_clamp hw]
  have d3 : nP M n = w' := by unfold nP; rw [e5, nI_clamp hw']
  rw [e4, nI_clamp hw] at g5
  rw [e5, nI_clamp hw'] at g8
  rw [d1, d2, d3, g1, g3, g6]
  exact ⟨by omega, f1, f1, by omega, e4, e4, g5, e5, e5, g8⟩
theorem e_ni_B {k : Nat} {M : zMM} (hI : z_B k M) : ni M ≤ 4 ∧ M 87 5 = nI (ni M) ∧ M 107 32 = nI (ni M) := by
  obtain ⟨h1, h2, h3, h4⟩ := hI.j_night
  obtain ⟨m, hm, e1, e2, e3⟩ := h2.nI
  have en : ni M = m := e2
  rw [en, h1]
  exact ⟨by omega, e1, e1⟩
theorem e_pl_B {k : Nat} {M : zMM} (hk : k < 600) (hI : z_B k M) {t : Nat} (ht : t < tk M) : t < 5 ∧ M 88 t = nI (pl_ M t) ∧ M 124 t = nI (pl_ M t) ∧ pl_ M t < tw M ∧ z_max (M 87 2) (M 89 t) = nI (fr_ M t) ∧ z_max (M 107 29) (M 125 t) = nI (fr_ M t) ∧ (M 107 29) = nI (M 107 29).toNatClampNeg ∧ (M 107 29).toNatClampNeg ≤ fr_ M t ∧ fr_ M t < 100000 := by
  have h5 := tk_le hI.j_cnt
  obtain ⟨l1, l2, l3, l4, l5⟩ := hI.j_place.1 t ht
  obtain ⟨w, hw, e4⟩ := nI_of (x := M 124 t) (by rw [Int32.lt_iff_toInt_lt]; show ¬ (M 124 t).toInt < 0; omega)
  have d2 : pl_ M t = w := by unfold pl_; rw [e4, nI_clamp hw]
  obtain ⟨d, hd, f1, f2, f3⟩ := hI.j_day.2.nI
  obtain ⟨c, hc, g1, g2, g3⟩ := l5.nI
  have e6 : fr_ M t = max d c := by unfold fr_; rw [f2, g2]
  have e7 : z_max (nI d) (nI c) = nI (max d c) := by
    unfold z_max
    by_cases h : d < c
    · rw [if_pos (nI_lt h hc), show max d c = c by omega]
    · rw [if_neg (nI_nlt (by omega) hd), show max d c = d by omega]
  rw [l1, l4, hI.j_day.1, d2, e6, f1, g1, e7, nI_clamp hd]
  refine ⟨by omega, e4, e4, by unfold pl_ at d2; omega, rfl, rfl, rfl, by omega, by omega⟩
theorem ft_pow_B {k0 : Nat} {M : zMM} (hk : k0 < 600) (hI : z_B k0 M) {t s n : Nat} (ht : t < tk M) (hn : n < 4) (hb : s.testBit n = true) (h : ftq M t s) : n < ni M ∧ ftq M t (2 ^ n) := by
  have h5 := tw_le hI.j_cnt
  obtain ⟨p1, p2, p3, p4, -⟩ := e_pl_B hk hI ht
  obtain ⟨w1, w2, w3, w4⟩ := hI.j_ways (by omega)
  obtain ⟨c1, c2, c3⟩ := cb_one w3 (fun a ha b hb => (w1 a ha b hb).2.imp (fun z => z.1) (fun z => z.1)) (fun n hn => by have := (e_night_B hI hn).2.2.2.2.2.2.1; omega) hb 4 0 (pl_ M t) (fr_ M t) (by omega) (by omega) (by omega) h
  exact ⟨c1, cb_pow hn 4 0 _ _ (by omega) (by omega) c1 c2 c3⟩
theorem e_can8_B {k0 : Nat} {M : zMM} (hk : k0 < 600) (hI : z_B k0 M) {s : Nat} (hs : ∀ n, ni M ≤ n → n < 4 → s.testBit n = false) {dy : Nat} (hd : M 107 29 = nI dy) (hdl : dy < 100000) : ∀ k n a f, n + k = ni M → a < tw M → f < 100000 → dy ≤ f → ∀ fu, k < fu → ∃ v, f_X8_canBe_107_p25 fu (nI s) (nI a) (nI f) (nI n) M = some (v, M) ∧ ((v = 1 ∧ cbq M s (4 - n) n a f) ∨ (v = 0 ∧ ¬ cbq M s (4 - n) n a f)) := by
  have h5 := tw_le hI.j_cnt
  obtain ⟨n1, n2, n3⟩ := e_ni_B hI
  have rest : ∀ k n a f, n + k = 4 → ni M ≤ n → cbq M s k n a f := by
    intro k
    induction k with
    | zero => intro n a f _ _; trivial
    | succ k ih => intro n a f h1 h2; exact Or.inr ⟨hs n h2 (by omega), ih (n + 1) a f (by omega) (by omega)⟩
  intro k
  induction k with
  | zero =>
    intro n a f hn ha hf hdf fu hfu
    obtain ⟨fu, rfl⟩ : ∃ m, fu = m + 1 := ⟨fu - 1, by omega⟩
    unfold f_X8_canBe_107_p25
    rw [n3, if_pos (nI_le (by omega) (by omega))]
    exact ⟨1, rfl, Or.inl ⟨rfl, rest (4 - n) n a f (by omega) (by omega)⟩⟩
  | succ k ih =>
    intro n a f hn ha hf hdf fu hfu
    obtain ⟨fu, rfl⟩ : ∃ m, fu = m + 1 := ⟨fu - 1, by omega⟩
    obtain ⟨c1, c2, c3, c4, c5, c6, c7, c8⟩ := e_night_B hI (n := n) (by omega)
    unfold f_X8_canBe_107_p25
    rw [n3, if_neg (nI_ge (by omega) (by omega)), nI_1]
    rw [show 4 - n = (4 - (n + 1)) + 1 by omega]
    by_cases hb : s.testBit n = true
    · have hnf : s.testBit n ≠ false := by rw [hb]; decide
      have ib4 : z_ib (nI n) 4 = true := z_ib_n (by decide) (by omega)
      obtain ⟨a5, b5, w1, w2⟩ := e_way_B hI ha c7
      rw [if_neg (fun z => by rw [e_sar0 (by omega), gb_n (by omega), hb] at z; exact absurd z (by decide)), if_pos ib4, if_pos ib4, nI_clamp (by omega), c3, c6, hd, e_hasWay a5 b5 w1 (by omega), z_bi_s, nI_15, if_pos (z_ib_n (by decide) (by omega)), if_pos ib4, if_pos ib4, nI_clamp (by omega), w1, nI_add]
      by_cases hday : nD M n < dy
      · rw [if_pos (nI_lt hday (by omega))]
        refine ⟨0, rfl, Or.inr ⟨rfl, fun z => ?_⟩⟩
        rcases z with ⟨-, -, -, z, -⟩ | ⟨z, -⟩
        · omega
        · exact hnf z
      · rw [if_neg (nI_nlt (by omega) (by omega))]
        rcases w2 with ⟨w2, w3⟩ | ⟨w2, w3⟩
        · rw [if_pos w2, if_pos rfl]
          refine ⟨0, rfl, Or.inr ⟨rfl, fun z => ?_⟩⟩
          rcases z with ⟨-, -, z, -⟩ | ⟨z, -⟩
          · omega
          · exact hnf z
        · rw [if_neg (show ¬ wd M a (nT M n) = 1000000 by omega), if_neg (by decide), c3]
          by_cases hle : f + wd M a (nT M n) ≤ nD M n
          · rw [if_pos (nI_le hle (by omega))]
            obtain ⟨v, e1, e2⟩ := ih (n + 1) (nT M n) (nD M n) (by omega) c7 (by omega) (by omega) fu (by omega)
            refine ⟨v, e1, e2.imp (fun z => ⟨z.1, Or.inl ⟨hb, by omega, w2, hle, z.2⟩⟩) (fun z => ⟨z.1, fun q => ?_⟩)⟩
            rcases q with ⟨-, -, -, -, q⟩ | ⟨q, -⟩
            · exact z.2 q
            · exact hnf q
          · rw [if_neg (nI_ge (by omega) (by omega))]
            refine ⟨0, rfl, Or.inr ⟨rfl, fun z => ?_⟩⟩
            rcases z with ⟨-, -, -, z, -⟩ | ⟨z, -⟩
            · exact hle z
            · exact hnf z
    · have hbf : s.testBit n = false := by simpa using hb
      rw [if_pos ((e_sar0 (by omega)).mpr (by rw [gb_n (by omega)]; exact hbf))]
      obtain ⟨v, e1, e2⟩ := ih (n + 1) a f (by omega) ha hf hdf fu (by omega)
      refine ⟨v, e1, e2.imp (fun z => ⟨z.1, Or.inr ⟨hbf, z.2⟩⟩) (fun z => ⟨z.1, fun q => ?_⟩)⟩
      rcases q with ⟨q, -⟩ | ⟨-, q⟩
      · exact hb q
      · exact z.2 q
theorem e_fit8_B {k0 : Nat} {M : zMM} (hk : k0 < 600) (hI : z_B k0 M) {t s : Nat} (ht : t < tk M) (hs : ∀ n, ni M ≤ n → n < 4 → s.testBit n = false) : ∃ v, f_X8_canBe_107 (nI t) (nI s) M = some (v, M) ∧ ((v = 1 ∧ ftq M t s) ∨ (v = 0 ∧ ¬ ftq M t s)) := by
  obtain ⟨p1, p2, p3, p4, p5, p6, p7, p8, p9⟩ := e_pl_B hk hI ht
  have ib : z_ib (nI t) 5 = true := z_ib_n (by decide) p1
  unfold f_X8_canBe_107
  rw [if_pos ib, if_pos ib, nI_clamp (by omega), p6, p3]
  exact e_can8_B hk hI hs p7 (by omega) (ni M) 0 _ _ (by omega) p4 p9 p8 z_fuel (by have := (e_ni_B hI).1; unfold z_fuel; omega)
theorem cbfrq_B {M M' : zMM} (hf : z_fr w_k7b M M') (s : Nat) : ∀ k n a f, cbq M' s k n a f ↔ cbq M s k n a f := by
  have e1 : ni M' = ni M := by unfold ni; rw [hf 107 32 rfl]
  have e2 : ∀ n, nT M' n = nT M n := fun n => by unfold nT; rw [hf 137 n rfl]
  have e3 : ∀ n, nD M' n = nD M n := fun n => by unfold nD; rw [hf 136 n rfl]
  intro k
  induction k with
  | zero => intro n a f; exact Iff.rfl
  | succ k ih =>
    intro n a f
    show (_ ∨ _) ↔ (_ ∨ _)
    rw [e1, e2, e3, wd_fr_B hf, ih, ih]
theorem ftfrq_B {M M' : zMM} (hf : z_fr w_k7b M M') (t s : Nat) : ftq M' t s ↔ ftq M t s := by
  have e1 : pl_ M' t = pl_ M t := by unfold pl_; rw [hf 124 t rfl]
  have e2 : fr_ M' t = fr_ M t := by unfold fr_; rw [hf 107 29 rfl, hf 125 t rfl]
  unfold ftq
  rw [e1, e2]
  exact cbfrq_B hf s 4 0 _ _
theorem zP_bd_B {k0 : Nat} {M : zMM} (hI : z_B k0 M) {p t : Nat} {so : Nat → Nat} {L : Nat → Bool} {v : Nat} (hp : p < tp M) (ht : t < tw M) (h : zP M so p t L v) : v ≤ 400 := by
  obtain ⟨-, -, -, -, q4, -⟩ := e_play_B hI hp
  obtain ⟨-, -, -, -, -, -, w6⟩ := e_town_B hI ht
  have := zR_bd (show (M 113 t).toNatClampNeg < 100 by omega) h
  have e : (M 120 p).toNatClampNeg = nm_ M p := rfl
  omega
theorem pc_of_B {k0 : Nat} {M : zMM} (hI : z_B k0 M) {n S : Nat} {x : Int32} (hn : n < ni M) (h : z_ls (zP M (so_ M) (nP M n) (nT M n) (tL M S)) x) : (x = -1 ∧ ∀ v, ¬ pcq M n S v) ∨ ∃ v, x = nI v ∧ v ≤ 400 ∧ pcq M n S v ∧ ∀ w, pcq M n S w → w = v := by
  obtain ⟨-, -, -, -, -, -, c7, -, -, c10⟩ := e_night_B hI hn
  rcases h with ⟨h1, h2⟩ | ⟨v, h1, h2, h3, h4⟩
  · refine Or.inl ⟨h1, fun v hv => ?_⟩
    rcases hv.2 with ⟨z, -⟩ | ⟨w, -, -, z, -⟩
    · exact nI_m1 (by have := hv.1; omega) z
    · exact h2 w z
  · have hb := zP_bd_B hI c10 c7 h3
    refine Or.inr ⟨v, h1, hb, ⟨hb, Or.inr ⟨v, rfl, h2, h3, h4⟩⟩, fun w hw => ?_⟩
    have := hw.2.inj (Or.inr ⟨v, rfl, h2, h3, h4⟩)
    exact (nI_eq (by have := hw.1; omega) (by omega)).mp this
theorem e_leaf_B {k0 : Nat} {M0 M : zMM} (hI : z_B k0 M0) (hf : z_fr w_k7b M0 M) (hP : PTB M0 M) {S : Int32 → Int32 → zMM → Option zMM} {ok : Nat → Nat → Prop} {σ : Nat → Nat} {B : Nat} (h140 : ∀ u, u < tk M0 → M 140 u = nI (σ u) ∧ σ u < 16) (hB : bq (M 107 52) B) (hB' : B ≤ 100000) :
    ∃ M', f_X8_tourOn_107_p15 S z_fuel (nI (tk M0)) (0 : Int32) (0 : Int32) M = some M' ∧ tpo M0 ok 0 (tk M0) σ B M M' := by
  have h5 := tk_le hI.j_cnt
  obtain ⟨n1, n2, n3⟩ := e_ni_B hI
  have h32 : ∀ n k, k ≤ tk M0 → sn_ σ n k < 2 ^ tk M0 := fun n k hk => Nat.lt_of_lt_of_le sn_lt (Nat.pow_le_pow_right (n := 2) (by decide) hk)
  have hp32 : 2 ^ tk M0 ≤ 2 ^ 5 := Nat.pow_le_pow_right (by decide) h5
  have mask : ∀ n, n < 4 → ∀ K acc r j, j + r = tk M0 → ∀ fu, r < fu → f_X8_tourOn_107_p30 S K fu (nI (tk M0)) (nI acc) (nI n) (nI (sn_ σ n j)) (nI j) M = (if M 139 (32 * n + sn_ σ n (tk M0)) = -1 then some M else K (nI (tk M0)) (nI acc + M 139 (32 * n + sn_ σ n (tk M0))) (nI (n + 1)) M) := by
    intro n hn K acc r
    induction r with
    | zero =>
      intro j hj fu hfu
      obtain ⟨fu, rfl⟩ : ∃ m, fu = m + 1 := ⟨fu - 1, by omega⟩
      have hjt : j = tk M0 := by omega
      rw [hjt]
      have := h32 n (tk M0) (Nat.le_refl _)
      unfold f_X8_tourOn_107_p30
      rw [if_pos (nI_le (Nat.le_refl _) (by omega)), show (32 : Int32) * nI n = nI (32 * n) from nI_mul 32 n, nI_add, if_pos (z_ib_n (by decide) (by omega)), if_pos (z_ib_n (by decide) (by omega)), nI_clamp (by omega), nI_1]
    | succ r ih =>
      intro j hj fu hfu
      obtain ⟨fu, rfl⟩ : ∃ m, fu = m + 1 := ⟨fu - 1, by omega⟩
      obtain ⟨g1, g2⟩ := h140 j (by omega)
      have next := ih (j + 1) (by omega) fu (by omega)
      unfold f_X8_tourOn_107_p30
      rw [if_neg (nI_ge (by omega) (by omega)), if_pos (z_ib_n (by decide) (by omega)), nI_clamp (by omega), g1, bit_sl (σ j) g2 n hn j (by omega), nI_orq, nI_1]
      exact next
  have loop : ∀ r n, n + r = ni M0 → ∀ fu acc, r < fu → acc ≤ 400 * n → ((∀ w, ¬ tq M0 (fun n => sn_ σ n (tk M0)) r n w) ∧ f_X8_tourOn_107_p15 S fu (nI (tk M0)) (nI acc) (nI n) M = some M) ∨ ∃ w, tq M0 (fun n => sn_ σ n (tk M0)) r n w ∧ (∀ u, tq M0 (fun n => sn_ σ n (tk M0)) r n u → u = w) ∧ f_X8_tourOn_107_p15 S fu (nI (tk M0)) (nI acc) (nI n) M = (if M 107 52 = -1 then f_X8_tourOn_107_p127 S z_fuel (nI (tk M0)) (0 : Int32) (z_up M 107 52 (nI (acc + w))) else if nI (acc + w) < M 107 52 then f_X8_tourOn_107_p127 S z_fuel (nI (tk M0)) (0 : Int32) (z_up M 107 52 (nI (acc + w))) else some M) := by
    intro r
    induction r with
    | zero =>
      intro n hn fu acc hfu hacc
      obtain ⟨fu, rfl⟩ : ∃ m, fu = m + 1 := ⟨fu - 1, by omega⟩
      refine Or.inr ⟨0, rfl, fun u hu => hu, ?_⟩
      unfold f_X8_tourOn_107_p15
      rw [hf 107 32 rfl, n3, if_pos (nI_le (by omega) (by omega))]
      rfl
    | succ r ih =>
      intro n hn fu acc hfu hacc
      obtain ⟨fu, rfl⟩ : ∃ m, fu = m + 1 := ⟨fu - 1, by omega⟩
      have e : f_X8_tourOn_107_p15 S (fu + 1) (nI (tk M0)) (nI acc) (nI n) M = (if M 139 (32 * n + sn_ σ n (tk M0)) = -1 then some M else f_X8_tourOn_107_p15 S fu (nI (tk M0)) (nI acc + M 139 (32 * n + sn_ σ n (tk M0))) (nI (n + 1)) M) := by
        have m := mask n (by omega) (f_X8_tourOn_107_p15 S fu) acc (tk M0) 0 (by omega) z_fuel (by unfold z_fuel; omega)
        rw [← m]
        show (if (M 107 32) ≤ nI n then _ else _) = _
        rw [hf 107 32 rfl, n3, if_neg (nI_ge (by omega) (by omega))]
        rfl
      rw [e]
      rcases pc_of_B hI (show n < ni M0 by omega) (hP n (by omega) _ (h32 n _ (Nat.le_refl _))) with ⟨z1, z2⟩ | ⟨v, z1, z2, z3, z4⟩
      · rw [z1, if_pos rfl]
        refine Or.inl ⟨fun w hw => ?_, rfl⟩
        obtain ⟨x, u, q, -⟩ := hw
        exact z2 x q
      · rw [z1, if_neg (nI_m1 (by omega)), nI_add]
        rcases ih (n + 1) (by omega) fu (acc + v) (by omega) (by omega) with ⟨y1, y2⟩ | ⟨w, y1, y2, y3⟩
        · refine Or.inl ⟨fun w hw => ?_, y2⟩
          obtain ⟨x, u, q1, q2, q3⟩ := hw
          exact y1 u q3
        · refine Or.inr ⟨v + w, ⟨v, w, z3, rfl, y1⟩, fun u hu => ?_, ?_⟩
          · obtain ⟨x, u', q1, q2, q3⟩ := hu
            rw [q2, z4 x q1, y2 u' q3]
          · rw [y3, Nat.add_assoc]
  rcases loop (ni M0) 0 (by omega) z_fuel 0 (by unfold z_fuel; omega) (by omega) with ⟨y1, y2⟩ | ⟨w, y1, y2, y3⟩
  · exact ⟨M, y2, fun _ _ => rfl, B, Nat.le_refl _, hB, fun v hv => absurd hv (y1 v), Or.inl ⟨rfl, fun _ => rfl⟩⟩
  · have hw := tq_bd _ _ _ y1
    rw [show f_X8_tourOn_107_p15 S z_fuel (nI (tk M0)) (0 : Int32) (0 : Int32) M = _ from y3, Nat.zero_add]
    have upd : w < B → ∃ M', f_X8_tourOn_107_p127 S z_fuel (nI (tk M0)) (0 : Int32) (z_up M 107 52 (nI w)) = some M' ∧ tpo M0 ok 0 (tk M0) σ B M M' := by
      intro hwB
      obtain ⟨M', e1, e2, e3, e4⟩ := e_p127 (S := S) (i := tk M0) h5 (tk M0) 0 (by omega) z_fuel (z_up M 107 52 (nI w)) (by unfold z_fuel; omega)
      refine ⟨M', e1, fun u hu => (e4 140 u (by decide)).trans (z_up_o (by decide)), w, by omega, Or.inr ⟨?_, by omega⟩, fun v hv => by rw [y2 v hv]; exact Nat.le_refl _, Or.inr ⟨hwB, y1, fun u hu => ?_, trivial⟩⟩
      · rw [e4 107 52 (by decide), z_up_s]
      · rw [e2 u (by omega) hu, z_up_o (by decide)]; exact (h140 u hu).1
    rcases hB with ⟨b1, b2⟩ | ⟨b1, b2⟩
    · rw [if_pos b1]
      exact upd (by omega)
    · rw [b1, if_neg (nI_m1 (by omega))]
      by_cases hlt : w < B
      · rw [if_pos (nI_lt hlt (by omega))]; exact upd hlt
      · rw [if_neg (nI_nlt (by omega) (by omega))]
        exact ⟨M, rfl, fun _ _ => rfl, B, Nat.le_refl _, Or.inr ⟨b1, b2⟩, fun v hv => by rw [y2 v hv]; omega, Or.inl ⟨rfl, fun _ => rfl⟩⟩
theorem ft_bits_B {k0 : Nat} {M : zMM} (hk : k0 < 600) (hI : z_B k0 M) {t s : Nat} (ht : t < tk M) (hs : s < 16) (h : ftq M t s) : s < 2 ^ ni M := by
  refine Nat.lt_pow_two_of_testBit _ (fun i hi => ?_)
  by_cases h4 : i < 4
  · cases hb : s.testBit i with
    | false => rfl
    | true => have := (ft_pow_B hk hI ht h4 hb h).1; omega
  · exact Nat.testBit_lt_two_pow (Nat.lt_of_lt_of_le (show s < 2 ^ 4 by omega) (Nat.pow_le_pow_right (by decide) (by omega)))
theorem e_tourOn_B {k0 : Nat} {M0 : zMM} (hk : k0 < 600) (hI : z_B k0 M0) {w : Nat} {xw : Int32} (hw : ∀ t, t < 5 → (nI t = xw ↔ t = w)) :
    ∀ k t, t + k = tk M0 → ∀ D, k < D → ∀ σ B M, z_B k0 M → z_fr w_k7b M0 M → PTB M0 M → (∀ u, u < t → M 140 u = nI (σ u) ∧ σ u < 16) → bq (M 107 52) B → B ≤ 100000 → ∃ M', f_X8_tourOn_107 D (nI t) xw M = some M' ∧ tpo M0 (okq M0 w) k t σ B M M' := by
  have h5 := tk_le hI.j_cnt
  obtain ⟨n1, n2, n3⟩ := e_ni_B hI
  have hKm : ∀ M, z_fr w_k7b M0 M → M 109 1 = nI (tk M0) := by
    intro M hf
    rw [hf 109 1 rfl]
    obtain ⟨N, -, hN, hNc, -⟩ := hI.j_cnt.2.2.2.2.2.2.1.nI
    unfold tk
    rw [hNc]; exact hN
  intro k
  induction k with
  | zero =>
    intro t ht D hD σ B M hIM hf hP h140 hB hB'
    obtain ⟨D, rfl⟩ : ∃ m, D = m + 1 := ⟨D - 1, by omega⟩
    have htt : t = tk M0 := by omega
    rw [htt] at h140 ⊢
    unfold f_X8_tourOn_107
    rw [hKm M hf, if_pos rfl]
    exact e_leaf_B hI hf hP h140 hB hB'
  | succ k ih =>
    intro t ht D hD σ B0 M hIM hf hP h140 hB hB'
    obtain ⟨D, rfl⟩ : ∃ m, D = m + 1 := ⟨D - 1, by omega⟩
    unfold f_X8_tourOn_107
    rw [hKm M hf, if_neg (fun z => by have := (nI_eq (by omega) (by omega)).mp z; omega)]
    have lim : ∃ l, l ≤ 16 ∧ (∀ s, s < 16 → okq M0 w t s → s < l) ∧ (∀ s, s < l → ∀ n, ni M0 ≤ n → n < 4 → s.testBit n = false) ∧ (∀ s, s < l → (t = w → s = 0)) ∧ ∀ M', z_fr w_k7b M0 M' → ∀ K s, (if nI t = xw then f_X8_tourOn_107_p172 (f_X8_tourOn_107 D) K (nI t) xw (nI s) (1 : Int32) (nI s) M' else f_X8_tourOn_107_p172 (f_X8_tourOn_107 D) K (nI t) xw (nI s) ((1 : Int32) <<< ((M' 107 32) &&& 31)) (nI s) M') = f_X8_tourOn_107_p172 (f_X8_tourOn_107 D) K (nI t) xw (nI s) (nI l) (nI s) M' := by
      by_cases htw : t = w
      · refine ⟨1, by omega, fun s _ h => ?_, fun s hs n _ _ => by rw [show s = 0 by omega]; exact Nat.zero_testBit n, fun s hs _ => by omega, fun M' _ K s => by rw [if_pos ((hw t (by omega)).mpr htw)]; rfl⟩
        have h' : (if t = w then s = 0 else _) := h
        rw [if_pos htw] at h'; omega
      · refine ⟨2 ^ ni M0, ?_, fun s hs h => ?_, fun s hs n hn _ => ?_, fun s _ z => absurd z htw, fun M' hf' K s => by rw [if_neg (fun z => htw ((hw t (by omega)).mp z)), hf' 107 32 rfl, n3, one_sl6 _ (by omega)]⟩
        · exact Nat.pow_le_pow_right (n := 2) (by decide) n1
        · have h' : (if t = w then s = 0 else ftq M0 t s) := h
          rw [if_neg htw] at h'
          exact ft_bits_B hk hI (by omega) hs h'
        · exact Nat.testBit_lt_two_pow (Nat.lt_of_lt_of_le hs (Nat.pow_le_pow_right (by decide) hn))
    obtain ⟨l, l1, l2, l3, l4, l5⟩ := lim
    have loop : ∀ r s, s + r = l → ∀ fu Ms, r < fu → z_B k0 Ms → z_fr w_k7b M0 Ms → PTB M0 Ms → (∀ u, u < t → Ms 140 u = M 140 u) → (∃ b, b ≤ B0 ∧ bq (Ms 107 52) b ∧ (∀ s', s' < s → okq M0 w t s' → ∀ v, TS M0 (okq M0 w) k (t + 1) (upq σ t s') v → b ≤ v) ∧ ((b = B0 ∧ ∀ u, Ms 141 u = M 141 u) ∨ (b < B0 ∧ (∀ u, u < t → Ms 141 u = nI (σ u)) ∧ ∃ s', s' < s ∧ s' < 16 ∧ okq M0 w t s' ∧ TS M0 (okq M0 w) k (t + 1) (upq σ t s') b ∧ (∀ s'', s'' < s' → ¬ (okq M0 w t s'' ∧ TS M0 (okq M0 w) k (t + 1) (upq σ t s'') b)) ∧ Ms 141 t = nI s' ∧ FT M0 (okq M0 w) k (t + 1) (upq σ t s') b (Ms 141)))) →
        ∃ M', f_X8_tourOn_107_p156 (f_X8_tourOn_107 D) fu (nI t) xw (nI s) Ms = some M' ∧ tpo M0 (okq M0 w) (k + 1) t σ B0 M M' := by
      intro r
      induction r with
      | zero =>
        intro s hs fu Ms hfu hIs hfs hPs h1 hinv
        obtain ⟨fu, rfl⟩ : ∃ m, fu = m + 1 := ⟨fu - 1, by omega⟩
        have hsl : s = l := by omega
        unfold f_X8_tourOn_107_p156
        rw [l5 Ms hfs]
        unfold f_X8_tourOn_107_p172
        rw [if_pos (nI_le (by omega) (by omega))]
        obtain ⟨b, b1, b2, b3, b4⟩ := hinv
        refine ⟨Ms, rfl, h1, b, b1, b2, fun v hv => ?_, ?_⟩
        · obtain ⟨s', q1, q2, q3⟩ := hv
          exact b3 s' (by have := l2 s' q1 q2; omega) q2 v q3
        · rcases b4 with z | ⟨z1, z2, s', z3, z4, z5, z6, z7, z8, z9⟩
          · exact Or.inl z
          · exact Or.inr ⟨z1, ⟨s', z4, z5, z6⟩, z2, s', z4, z5, z6, z7, z8, z9⟩
      | succ r ihr =>
        intro s hs fu Ms hfu hIs hfs hPs h1 hinv
        obtain ⟨fu, rfl⟩ : ∃ m, fu = m + 1 := ⟨fu - 1, by omega⟩
        obtain ⟨b, b1, b2, b3, b4⟩ := hinv
        unfold f_X8_tourOn_107_p156
        rw [l5 Ms hfs]
        unfold f_X8_tourOn_107_p172
        rw [if_neg (nI_ge (by omega) (by omega)), nI_1]
        have etk : tk Ms = tk M0 := (cntfrq_B hfs).2.1
        have eni : ni Ms = ni M0 := by unfold ni; rw [hfs 107 32 rfl]
        obtain ⟨v, v1, v2⟩ := e_fit8_B hk hIs (t := t) (s := s) (by rw [etk]; omega) (by rw [eni]; exact l3 s (by omega))
        have hok : okq M0 w t s ↔ ftq M0 t s := by
          show (if t = w then s = 0 else ftq M0 t s) ↔ _
          by_cases htw : t = w
          · rw [if_pos htw]
            have := l4 s (by omega) htw
            rw [this]
            exact ⟨fun _ => ft_zero, fun _ => rfl⟩
          · rw [if_neg htw]
        rw [ftfrq_B hfs, ← hok] at v2
        rw [v1, z_bi_s]
        rcases v2 with ⟨z1, z2⟩ | ⟨z1, z2⟩
        · rw [z1, if_neg (by decide), if_pos (z_ib_n (by decide) (by omega)), nI_clamp (by omega), nI_1]
          have hfn : z_fr w_c7b Ms (z_up Ms 140 t (nI s)) := z_fr.refl.up rfl
          obtain ⟨M', e1, f1, b', f2, f3, f4, f5⟩ := ih (t + 1) (by omega) D (by omega) (upq σ t s) b (z_up Ms 140 t (nI s)) (hIs.sc hfn) (hfs.trans (sc_sk_B hfn)) hPs (fun u hu => by
            show z_up Ms 140 t (nI s) 140 u = nI (if u = t then s else σ u) ∧ (if u = t then s else σ u) < 16
            by_cases hut : u = t
            · rw [if_pos hut, hut, z_up_s]; exact ⟨rfl, by omega⟩
            · rw [if_neg hut, z_up_n hut, h1 u (by omega)]; exact h140 u (by omega)) b2 (by omega)
          rw [e1, z_bv_s]
          have fr : z_fr w_c7b Ms M' := hfn.sub (R_X8_tourOn_107 e1) (by decide)
          refine ihr (s + 1) (by omega) fu M' (by omega) (hIs.sc fr) (hfs.trans (sc_sk_B fr)) (fun n hn S hS => ?_) (fun u hu => ?_) ⟨b', by omega, f3, fun s' hs' ho v hv => ?_, ?_⟩
          · rw [R_X8_tourOn_107 e1 139 _ rfl]; exact hPs n hn S hS
          · rw [f1 u (by omega), z_up_n (by omega)]; exact h1 u hu
          · by_cases hss : s' = s
            · rw [hss] at hv; exact f4 v hv
            · have := b3 s' (by omega) ho v hv; omega
          · rcases f5 with ⟨g1, g2⟩ | ⟨g1, g2, g3, g4⟩
            · have g2' : ∀ u, M' 141 u = Ms 141 u := fun u => (g2 u).trans (z_up_o (by decide))
              rw [g1]
              rcases b4 with ⟨q1, q2⟩ | ⟨q1, q2, s', q3, q4, q5, q6, q7, q8, q9⟩
              · exact Or.inl ⟨q1, fun u => (g2' u).trans (q2 u)⟩
              · exact Or.inr ⟨q1, fun u hu => (g2' u).trans (q2 u hu), s', by omega, q4, q5, q6, q7, (g2' t).trans q8, FT_cgq _ _ _ _ _ _ (fun u _ _ => (g2' u).symm) q9⟩
            · refine Or.inr ⟨by omega, fun u hu => ?_, s, by omega, by omega, z2, g2, fun s'' hs'' q => ?_, ?_, g4⟩
              · rw [g3 u (by omega)]
                show nI (if u = t then s else σ u) = nI (σ u)
                rw [if_neg (by omega)]
              · have := b3 s'' hs'' q.1 b' q.2; omega
              · rw [g3 t (by omega)]
                show nI (if t = t then s else σ t) = nI s
                rw [if_pos rfl]
        · rw [z1, if_pos rfl]
          refine ihr (s + 1) (by omega) fu Ms (by omega) hIs hfs hPs h1 ⟨b, b1, b2, fun s' hs' ho v hv => ?_, ?_⟩
          · by_cases hss : s' = s
            · rw [hss] at ho; exact absurd ho z2
            · exact b3 s' (by omega) ho v hv
          · rcases b4 with z | ⟨q1, q2, s', q3, q4⟩
            · exact Or.inl z
            · exact Or.inr ⟨q1, q2, s', by omega, q4⟩
    exact loop l 0 (by omega) z_fuel M (by unfold z_fuel; omega) hIM hf hP (fun _ _ => rfl) ⟨B0, Nat.le_refl _, hB, fun s' hs' => absurd hs' (by omega), Or.inl ⟨rfl, fun _ => rfl⟩⟩
theorem e_tw_B {k0 : Nat} {M0 M1 : zMM} (hk : k0 < 600) (hI : z_B k0 M0) (hI1 : z_B k0 M1) (hf1 : z_fr w_k7b M0 M1) {w : Nat} {xw : Int32} (hw : ∀ t, t < 5 → (nI t = xw ↔ t = w)) : ∃ y M', f_X8_tourWithout_107 xw M1 = some (y, M') ∧ z_ls (TS M0 (okq M0 w) (tk M0) 0 (fun _ => 0)) y ∧ z_B k0 M' ∧ z_fr w_k7b M0 M' ∧ M' 107 1 = M1 107 1 ∧ ∀ v, y = nI v → v < 10000 → FT M0 (okq M0 w) (tk M0) 0 (fun _ => 0) v (M' 141) := by
  have h5 := tk_le hI.j_cnt
  obtain ⟨n1, n2, n3⟩ := e_ni_B hI
  have hp32 : 2 ^ tk M0 ≤ 2 ^ 5 := Nat.pow_le_pow_right (by decide) h5
  have hKm : ∀ M, z_fr w_k7b M0 M → M 109 1 = nI (tk M0) := by
    intro M hf
    rw [hf 109 1 rfl]
    obtain ⟨N, -, hN, hNc, -⟩ := hI.j_cnt.2.2.2.2.2.2.1.nI
    unfold tk
    rw [hNc]; exact hN
  have inner : ∀ n, n < ni M0 → ∀ K r S, S + r = 2 ^ tk M0 → ∀ fu M, r < fu → z_B k0 M → z_fr w_k7b M0 M → M 107 1 = M1 107 1 → (∀ m, m < n → ∀ S', S' < 2 ^ tk M0 → z_ls (zP M0 (so_ M0) (nP M0 m) (nT M0 m) (tL M0 S')) (M 139 (32 * m + S'))) → (∀ S', S' < S → z_ls (zP M0 (so_ M0) (nP M0 n) (nT M0 n) (tL M0 S')) (M 139 (32 * n + S'))) → ∃ M', f_X8_tourWithout_107_p12 K fu xw (nI n) (nI S) M = K xw (nI (n + 1)) M' ∧ z_B k0 M' ∧ z_fr w_k7b M0 M' ∧ M' 107 1 = M1 107 1 ∧ (∀ m, m < n + 1 → ∀ S', S' < 2 ^ tk M0 → z_ls (zP M0 (so_ M0) (nP M0 m) (nT M0 m) (tL M0 S')) (M' 139 (32 * m + S'))) := by
    intro n hn K r
    obtain ⟨c1, c2, c3, c4, c5, c6, c7, c8, c9, c10⟩ := e_night_B hI hn
    induction r with
    | zero =>
      intro S hS fu M hfu hIM hf h1 hold hnew
      obtain ⟨fu, rfl⟩ : ∃ m, fu = m + 1 := ⟨fu - 1, by omega⟩
      unfold f_X8_tourWithout_107_p12
      rw [hKm M hf, one_sl6 _ (by omega), if_pos (nI_le (by omega) (by omega)), nI_1]
      refine ⟨M, rfl, hIM, hf, h1, fun m hm S' hS' => ?_⟩
      by_cases hmn : m = n
      · rw [hmn]; exact hnew S' (by omega)
      · exact hold m (by omega) S' hS'
    | succ r ih =>
      intro S hS fu M hfu hIM hf h1 hold hnew
      obtain ⟨fu, rfl⟩ : ∃ m, fu = m + 1 := ⟨fu - 1, by omega⟩
      obtain ⟨d1, d2, d3, d4⟩ := cntfrq_B hf
      obtain ⟨y, -, y2, y3⟩ := e_things_B hIM hIM z_fr.refl S
      obtain ⟨x, M2, b1, b2, b3, b4, b5⟩ := e_mTr_B hIM (p := nP M0 n) (t := nT M0 n) (s := S) (y := y) (by rw [d4]; exact c10) (by rw [d1]; exact c7) y3
      rw [zPfrq_B hf] at b2
      have b6 : z_fr ([(107, 38)], [128, 129]) M M2 := R_X8_priceOf_107 b1
      have ib4 : z_ib (nI n) 4 = true := z_ib_n (by decide) c1
      unfold f_X8_tourWithout_107_p12
      rw [hKm M hf, one_sl6 _ (by omega), if_neg (nI_ge (by omega) (by omega)), if_pos ib4, if_pos ib4, y2, z_bi_s, nI_clamp (by omega), hf 138 n rfl, hf 137 n rfl, c9, c6, b1, z_bi_s, show (32 : Int32) * nI n = nI (32 * n) from nI_mul 32 n, nI_add, if_pos (z_ib_n (by decide) (by omega)), nI_clamp (by omega), nI_1]
      have hf3 : z_fr w_c7b M2 (z_up M2 139 (32 * n + S) x) := z_fr.refl.up rfl
      refine ih (S + 1) (by omega) fu _ (by omega) (b3.sc hf3) ((hf.trans b4).trans (sc_sk_B hf3)) (b5.trans h1) (fun m hm S' hS' => ?_) (fun S' hS' => ?_)
      · rw [z_up_n (by omega), b6 139 _ rfl]; exact hold m hm S' hS'
      · by_cases hSS : S' = S
        · rw [hSS, z_up_s]; exact b2
        · rw [z_up_n (by omega), b6 139 _ rfl]; exact hnew S' (by omega)
  have outer : ∀ r n, n + r = ni M0 → ∀ fu M, r < fu → z_B k0 M → z_fr w_k7b M0 M → M 107 1 = M1 107 1 → (∀ m, m < n → ∀ S', S' < 2 ^ tk M0 → z_ls (zP M0 (so_ M0) (nP M0 m) (nT M0 m) (tL M0 S')) (M 139 (32 * m + S'))) → ∃ M', f_X8_tourWithout_107_p2 fu xw (nI n) M = (z_bv (f_X8_tourOn_107 8 (0 : Int32) xw (z_up M' 107 52 (-1 : Int32))) fun M4 => some ((M4 107 52), M4)) ∧ z_B k0 M' ∧ z_fr w_k7b M0 M' ∧ M' 107 1 = M1 107 1 ∧ PTB M0 M' := by
    intro r
    induction r with
    | zero =>
      intro n hn fu M hfu hIM hf h1 hold
      obtain ⟨fu, rfl⟩ : ∃ m, fu = m + 1 := ⟨fu - 1, by omega⟩
      unfold f_X8_tourWithout_107_p2
      rw [hf 107 32 rfl, n3, if_pos (nI_le (by omega) (by omega))]
      exact ⟨M, rfl, hIM, hf, h1, fun m hm => hold m (by omega)⟩
    | succ r ih =>
      intro n hn fu M hfu hIM hf h1 hold
      obtain ⟨fu, rfl⟩ : ∃ m, fu = m + 1 := ⟨fu - 1, by omega⟩
      unfold f_X8_tourWithout_107_p2
      rw [hf 107 32 rfl, n3, if_neg (nI_ge (by omega) (by omega))]
      obtain ⟨M', e1, e2, e3, e4, e5⟩ := inner n (by omega) (f_X8_tourWithout_107_p2 fu) (2 ^ tk M0) 0 (by omega) z_fuel M (by unfold z_fuel; omega) hIM hf h1 hold (fun S' hS' => absurd hS' (by omega))
      rw [show f_X8_tourWithout_107_p12 (f_X8_tourWithout_107_p2 fu) z_fuel xw (nI n) (0 : Int32) M = _ from e1]
      exact ih (n + 1) (by omega) fu M' (by omega) e2 e3 e4 e5
  obtain ⟨M2, a1, a2, a3, a4, a5⟩ := outer (ni M0) 0 (by omega) z_fuel M1 (by unfold z_fuel; omega) hI1 hf1 rfl (fun m hm => absurd hm (by omega))
  have hf3 : z_fr w_c7b M2 (z_up M2 107 52 (-1 : Int32)) := z_fr.refl.up rfl
  obtain ⟨M3, e1, -, B, e2, e3, e4, e5⟩ := e_tourOn_B hk hI hw (tk M0) 0 (by omega) 8 (by omega) (fun _ => 0) 100000 (z_up M2 107 52 (-1 : Int32)) (a2.sc hf3) (a3.trans (sc_sk_B hf3)) a5 (fun u hu => absurd hu (by omega)) (Or.inl ⟨z_up_s, rfl⟩) (by omega)
  have fr : z_fr w_c7b M2 M3 := hf3.sub (R_X8_tourOn_107 e1) (by decide)
  refine ⟨M3 107 52, M3, ?_, ?_, a2.sc fr, a3.trans (sc_sk_B fr), ?_, ?_⟩
  · unfold f_X8_tourWithout_107
    rw [show f_X8_tourWithout_107_p2 z_fuel xw (0 : Int32) M1 = _ from a1, show f_X8_tourOn_107 8 (0 : Int32) xw (z_up M2 107 52 (-1 : Int32)) = _ from e1, z_bv_s]
  · rcases e5 with ⟨g1, -⟩ | ⟨g1, g2, -⟩
    · rw [g1] at e3 e4
      rcases e3 with ⟨q, -⟩ | ⟨-, q⟩
      · rw [q]
        refine z_ls.none (fun v hv => ?_)
        have h1 := e4 v hv
        have h2 := TS_bd _ _ _ _ hv
        omega
      · omega
    · have hb := TS_bd _ _ _ _ g2
      rcases e3 with ⟨-, q⟩ | ⟨q, -⟩
      · omega
      · rw [q]; exact Or.inr ⟨B, rfl, by omega, g2, e4⟩
  · rw [R_X8_tourOn_107 e1 107 1 rfl]
    exact (show z_up M2 107 52 (-1 : Int32) 107 1 = M2 107 1 from rfl).trans a4
  · intro v hv hv2
    rcases e5 with ⟨g1, -⟩ | ⟨g1, g2, g3, g4⟩
    · rw [g1] at e3
      rcases e3 with ⟨q, -⟩ | ⟨-, q⟩
      · exact absurd (hv.symm.trans q) (nI_m1 (by omega))
      · omega
    · rcases e3 with ⟨-, q⟩ | ⟨q, q2⟩
      · omega
      · have : v = B := (nI_eq (by omega) (by omega)).mp (hv.symm.trans q)
        rw [this]; exact g4
