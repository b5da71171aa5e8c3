/-! ===== the invariant ===== -/
def z_bd (x : Int32) (lo hi : Int) : Prop := lo ≤ x.toInt ∧ x.toInt ≤ hi
def z_dis (w d : zWs) : Bool := d.1.all (fun p => z_ok w p.1 p.2) && d.2.all (fun c => !(w.2.contains c) && w.1.all (fun p => !(p.1 == c)))
theorem z_dis_f {w d : zWs} {M M' : zMM} (hd : z_dis w d = true) (h : z_fr w M M') {a b : Nat} (hm : (a, b) ∈ d.1) : M' a b = M a b := by
  unfold z_dis at hd
  rw [Bool.and_eq_true, List.all_eq_true] at hd
  exact h a b (hd.1 (a, b) hm)
theorem z_dis_a {w d : zWs} {M M' : zMM} (hd : z_dis w d = true) (h : z_fr w M M') {a : Nat} (hm : a ∈ d.2) (b : Nat) : M' a b = M a b := by
  unfold z_dis at hd
  rw [Bool.and_eq_true, List.all_eq_true, List.all_eq_true] at hd
  have q := hd.2 a hm
  rw [Bool.and_eq_true, List.all_eq_true] at q
  refine h a b ?_
  unfold z_ok
  rw [q.1, Bool.true_and, Bool.not_eq_true']
  rw [List.contains_eq_mem, decide_eq_false_iff_not]
  intro z
  have := q.2 (a, b) z
  simp at this
/-! counts, out of the model's cells -/
def tw (M : zMM) : Nat := (M 109 0).toNatClampNeg
def tk (M : zMM) : Nat := (M 109 1).toNatClampNeg
def tg (M : zMM) : Nat := (M 109 2).toNatClampNeg
def tp (M : zMM) : Nat := (M 109 3).toNatClampNeg
def ni (M : zMM) : Nat := (M 107 32).toNatClampNeg
def j_tape (M : zMM) : Prop :=
  M 51 1 = M 107 17 ∧ z_bd (M 107 17) 0 700 ∧ ∀ j, j < (M 107 17).toNatClampNeg → z_bd (M 52 j) (-128) 127 ∧ M 123 j = M 52 j &&& 255
def d_j_tape : zWs := ([(51, 1), (107, 17)], [52, 123])
theorem j_tape.fr {w : zWs} {M M' : zMM} (hd : z_dis w d_j_tape = true) (h : z_fr w M M') (q : j_tape M) : j_tape M' := by
  have hf_51_1 : M' 51 1 = M 51 1 := z_dis_f hd h (by decide)
  have hf_107_17 : M' 107 17 = M 107 17 := z_dis_f hd h (by decide)
  have ha_52 : ∀ b, M' 52 b = M 52 b := z_dis_a hd h (by decide)
  have ha_123 : ∀ b, M' 123 b = M 123 b := z_dis_a hd h (by decide)
  unfold j_tape at q ⊢
  simp only [tw, tk, tg, tp, ni, hf_51_1, hf_107_17, ha_52, ha_123] at q ⊢
  exact q
def j_fault (M : zMM) : Prop :=
  M 51 2 = M 107 26
def d_j_fault : zWs := ([(51, 2), (107, 26)], [])
theorem j_fault.fr {w : zWs} {M M' : zMM} (hd : z_dis w d_j_fault = true) (h : z_fr w M M') (q : j_fault M) : j_fault M' := by
  have hf_51_2 : M' 51 2 = M 51 2 := z_dis_f hd h (by decide)
  have hf_107_26 : M' 107 26 = M 107 26 := z_dis_f hd h (by decide)
  unfold j_fault at q ⊢
  simp only [tw, tk, tg, tp, ni, hf_51_2, hf_107_26] at q ⊢
  exact q
def j_cnt (M : zMM) : Prop :=
  M 53 0 = M 109 0 ∧ M 53 6 = M 109 1 ∧ M 53 8 = M 109 2 ∧ M 53 11 = M 109 3 ∧ M 53 16 = M 109 4 ∧ z_bd (M 109 0) 0 5 ∧ z_bd (M 109 1) 0 5 ∧ z_bd (M 109 2) 0 10 ∧ z_bd (M 109 3) 0 4 ∧ z_bd (M 109 4) 1 40
def d_j_cnt : zWs := ([(53, 0), (53, 6), (53, 8), (53, 11), (53, 16)], [109])
theorem j_cnt.fr {w : zWs} {M M' : zMM} (hd : z_dis w d_j_cnt = true) (h : z_fr w M M') (q : j_cnt M) : j_cnt M' := by
  have hf_53_0 : M' 53 0 = M 53 0 := z_dis_f hd h (by decide)
  have hf_53_6 : M' 53 6 = M 53 6 := z_dis_f hd h (by decide)
  have hf_53_8 : M' 53 8 = M 53 8 := z_dis_f hd h (by decide)
  have hf_53_11 : M' 53 11 = M 53 11 := z_dis_f hd h (by decide)
  have hf_53_16 : M' 53 16 = M 53 16 := z_dis_f hd h (by decide)
  have ha_109 : ∀ b, M' 109 b = M 109 b := z_dis_a hd h (by decide)
  unfold j_cnt at q ⊢
  simp only [tw, tk, tg, tp, ni, hf_53_0, hf_53_6, hf_53_8, hf_53_11, hf_53_16, ha_109] at q ⊢
  exact q
def j_town (M : zMM) : Prop :=
  ∀ i, i < tw M → M 54 i = M 110 i ∧ z_bd (M 110 i) 0 3 ∧ M 55 i = M 111 i ∧ z_bd (M 111 i) 0 1000 ∧ M 56 i = M 112 i ∧ z_bd (M 112 i) 0 9 ∧ M 57 i = M 113 i ∧ z_bd (M 113 i) 0 99 ∧ (M 110 i = 0 → M 111 i = 0)
def d_j_town : zWs := ([], [54, 55, 56, 57, 109, 110, 111, 112, 113])
theorem j_town.fr {w : zWs} {M M' : zMM} (hd : z_dis w d_j_town = true) (h : z_fr w M M') (q : j_town M) : j_town M' := by
  have ha_54 : ∀ b, M' 54 b = M 54 b := z_dis_a hd h (by decide)
  have ha_55 : ∀ b, M' 55 b = M 55 b := z_dis_a hd h (by decide)
  have ha_56 : ∀ b, M' 56 b = M 56 b := z_dis_a hd h (by decide)
  have ha_57 : ∀ b, M' 57 b = M 57 b := z_dis_a hd h (by decide)
  have ha_109 : ∀ b, M' 109 b = M 109 b := z_dis_a hd h (by decide)
  have ha_110 : ∀ b, M' 110 b = M 110 b := z_dis_a hd h (by decide)
  have ha_111 : ∀ b, M' 111 b = M 111 b := z_dis_a hd h (by decide)
  have ha_112 : ∀ b, M' 112 b = M 112 b := z_dis_a hd h (by decide)
  have ha_113 : ∀ b, M' 113 b = M 113 b := z_dis_a hd h (by decide)
  unfold j_town at q ⊢
  simp only [tw, tk, tg, tp, ni, ha_54, ha_55, ha_56, ha_57, ha_109, ha_110, ha_111, ha_112, ha_113] at q ⊢
  exact q
def j_train (M : zMM) : Prop :=
  ∀ i, i < 25 → (M 58 i = -1 ∧ M 114 i = 0) ∨ (M 58 i = M 114 i ∧ z_bd (M 114 i) 1 9 ∧ i / 5 < tw M ∧ i % 5 < tw M ∧ i / 5 ≠ i % 5)
def d_j_train : zWs := ([], [58, 109, 114])
theorem j_train.fr {w : zWs} {M M' : zMM} (hd : z_dis w d_j_train = true) (h : z_fr w M M') (q : j_train M) : j_train M' := by
  have ha_58 : ∀ b, M' 58 b = M 58 b := z_dis_a hd h (by decide)
  have ha_109 : ∀ b, M' 109 b = M 109 b := z_dis_a hd h (by decide)
  have ha_114 : ∀ b, M' 114 b = M 114 b := z_dis_a hd h (by decide)
  unfold j_train at q ⊢
  simp only [tw, tk, tg, tp, ni, ha_58, ha_109, ha_114] at q ⊢
  exact q
def j_thing (M : zMM) : Prop :=
  ∀ i, i < tg M → M 60 i = M 116 i ∧ z_bd (M 116 i) 0 19 ∧ M 61 i = M 117 i ∧ 0 ≤ (M 117 i).toInt ∧ (M 117 i).toNatClampNeg < tk M
def d_j_thing : zWs := ([], [60, 61, 109, 116, 117])
theorem j_thing.fr {w : zWs} {M M' : zMM} (hd : z_dis w d_j_thing = true) (h : z_fr w M M') (q : j_thing M) : j_thing M' := by
  have ha_60 : ∀ b, M' 60 b = M 60 b := z_dis_a hd h (by decide)
  have ha_61 : ∀ b, M' 61 b = M 61 b := z_dis_a hd h (by decide)
  have ha_109 : ∀ b, M' 109 b = M 109 b := z_dis_a hd h (by decide)
  have ha_116 : ∀ b, M' 116 b = M 116 b := z_dis_a hd h (by decide)
  have ha_117 : ∀ b, M' 117 b = M 117 b := z_dis_a hd h (by decide)
  unfold j_thing at q ⊢
  simp only [tw, tk, tg, tp, ni, ha_60, ha_61, ha_109, ha_116, ha_117] at q ⊢
  exact q
def j_play (M : zMM) : Prop :=
  ∀ i, i < tp M → M 62 i = M 118 i ∧ z_bd (M 118 i) 1 20 ∧ M 63 i = M 120 i ∧ z_bd (M 120 i) 1 4 ∧ ∀ k, k < (M 120 i).toNatClampNeg → M 64 (4 * i + k) = M 119 (4 * i + k) ∧ z_bd (M 119 (4 * i + k)) 0 19
def d_j_play : zWs := ([], [62, 63, 64, 109, 118, 119, 120])
theorem j_play.fr {w : zWs} {M M' : zMM} (hd : z_dis w d_j_play = true) (h : z_fr w M M') (q : j_play M) : j_play M' := by
  have ha_62 : ∀ b, M' 62 b = M 62 b := z_dis_a hd h (by decide)
  have ha_63 : ∀ b, M' 63 b = M 63 b := z_dis_a hd h (by decide)
  have ha_64 : ∀ b, M' 64 b = M 64 b := z_dis_a hd h (by decide)
  have ha_109 : ∀ b, M' 109 b = M 109 b := z_dis_a hd h (by decide)
  have ha_118 : ∀ b, M' 118 b = M 118 b := z_dis_a hd h (by decide)
  have ha_119 : ∀ b, M' 119 b = M 119 b := z_dis_a hd h (by decide)
  have ha_120 : ∀ b, M' 120 b = M 120 b := z_dis_a hd h (by decide)
  unfold j_play at q ⊢
  simp only [tw, tk, tg, tp, ni, ha_62, ha_63, ha_64, ha_109, ha_118, ha_119, ha_120] at q ⊢
  exact q
def j_like (M : zMM) : Prop :=
  0 < tp M → ∀ a, a < 20 → ∀ b, b < 20 → (a = b ∧ M 65 (20 * a + b) = 0 ∧ M 121 (20 * a + b) = -1) ∨ (a ≠ b ∧ M 65 (20 * a + b) = M 121 (20 * a + b) ∧ z_bd (M 121 (20 * a + b)) (-1) 99)
def d_j_like : zWs := ([], [65, 109, 121])
theorem j_like.fr {w : zWs} {M M' : zMM} (hd : z_dis w d_j_like = true) (h : z_fr w M M') (q : j_like M) : j_like M' := by
  have ha_65 : ∀ b, M' 65 b = M 65 b := z_dis_a hd h (by decide)
  have ha_109 : ∀ b, M' 109 b = M 109 b := z_dis_a hd h (by decide)
  have ha_121 : ∀ b, M' 121 b = M 121 b := z_dis_a hd h (by decide)
  unfold j_like at q ⊢
  simp only [tw, tk, tg, tp, ni, ha_65, ha_109, ha_121] at q ⊢
  exact q
def j_day (k : Nat) (M : zMM) : Prop :=
  M 87 2 = M 107 29 ∧ z_bd (M 107 29) 0 (100 * k)
def d_j_day : zWs := ([(87, 2), (107, 29)], [])
theorem j_day.fr {w : zWs} {M M' : zMM} {k : Nat} (hd : z_dis w d_j_day = true) (h : z_fr w M M') (q : j_day k M) : j_day k M' := by
  have hf_87_2 : M' 87 2 = M 87 2 := z_dis_f hd h (by decide)
  have hf_107_29 : M' 107 29 = M 107 29 := z_dis_f hd h (by decide)
  unfold j_day at q ⊢
  simp only [tw, tk, tg, tp, ni, hf_87_2, hf_107_29] at q ⊢
  exact q
def j_seed (M : zMM) : Prop :=
  M 87 3 = M 107 33 ∧ z_zb (M 107 33) = true ∧ (M 107 33 = 1 → M 87 4 = M 107 30)
def d_j_seed : zWs := ([(87, 3), (87, 4), (107, 30), (107, 33)], [])
theorem j_seed.fr {w : zWs} {M M' : zMM} (hd : z_dis w d_j_seed = true) (h : z_fr w M M') (q : j_seed M) : j_seed M' := by
  have hf_87_3 : M' 87 3 = M 87 3 := z_dis_f hd h (by decide)
  have hf_87_4 : M' 87 4 = M 87 4 := z_dis_f hd h (by decide)
  have hf_107_30 : M' 107 30 = M 107 30 := z_dis_f hd h (by decide)
  have hf_107_33 : M' 107 33 = M 107 33 := z_dis_f hd h (by decide)
  unfold j_seed at q ⊢
  simp only [tw, tk, tg, tp, ni, hf_87_3, hf_87_4, hf_107_30, hf_107_33] at q ⊢
  exact q
def j_place (k : Nat) (M : zMM) : Prop :=
  (∀ t, t < tk M → M 88 t = M 124 t ∧ 0 ≤ (M 124 t).toInt ∧ (M 124 t).toNatClampNeg < tw M ∧ M 89 t = M 125 t ∧ z_bd (M 125 t) 0 (100 * k + 100)) ∧ ∀ t, tk M ≤ t → t < 5 → M 88 t = -1
def d_j_place : zWs := ([], [88, 89, 109, 124, 125])
theorem j_place.fr {w : zWs} {M M' : zMM} {k : Nat} (hd : z_dis w d_j_place = true) (h : z_fr w M M') (q : j_place k M) : j_place k M' := by
  have ha_88 : ∀ b, M' 88 b = M 88 b := z_dis_a hd h (by decide)
  have ha_89 : ∀ b, M' 89 b = M 89 b := z_dis_a hd h (by decide)
  have ha_109 : ∀ b, M' 109 b = M 109 b := z_dis_a hd h (by decide)
  have ha_124 : ∀ b, M' 124 b = M 124 b := z_dis_a hd h (by decide)
  have ha_125 : ∀ b, M' 125 b = M 125 b := z_dis_a hd h (by decide)
  unfold j_place at q ⊢
  simp only [tw, tk, tg, tp, ni, ha_88, ha_89, ha_109, ha_124, ha_125] at q ⊢
  exact q
def j_night (M : zMM) : Prop :=
  M 87 5 = M 107 32 ∧ z_bd (M 107 32) 0 4 ∧ (∀ n, n < ni M → M 90 n = M 136 n ∧ z_bd (M 136 n) 0 99 ∧ M 91 n = M 137 n ∧ 0 ≤ (M 137 n).toInt ∧ (M 137 n).toNatClampNeg < tw M ∧ M 92 n = M 138 n ∧ 0 ≤ (M 138 n).toInt ∧ (M 138 n).toNatClampNeg < tp M) ∧ ∀ n, n + 1 < ni M → (M 136 n).toInt ≤ (M 136 (n + 1)).toInt
def d_j_night : zWs := ([(87, 5), (107, 32)], [90, 91, 92, 109, 136, 137, 138])
theorem j_night.fr {w : zWs} {M M' : zMM} (hd : z_dis w d_j_night = true) (h : z_fr w M M') (q : j_night M) : j_night M' := by
  have hf_87_5 : M' 87 5 = M 87 5 := z_dis_f hd h (by decide)
  have hf_107_32 : M' 107 32 = M 107 32 := z_dis_f hd h (by decide)
  have ha_90 : ∀ b, M' 90 b = M 90 b := z_dis_a hd h (by decide)
  have ha_91 : ∀ b, M' 91 b = M 91 b := z_dis_a hd h (by decide)
  have ha_92 : ∀ b, M' 92 b = M 92 b := z_dis_a hd h (by decide)
  have ha_109 : ∀ b, M' 109 b = M 109 b := z_dis_a hd h (by decide)
  have ha_136 : ∀ b, M' 136 b = M 136 b := z_dis_a hd h (by decide)
  have ha_137 : ∀ b, M' 137 b = M 137 b := z_dis_a hd h (by decide)
  have ha_138 : ∀ b, M' 138 b = M 138 b := z_dis_a hd h (by decide)
  unfold j_night at q ⊢
  simp only [tw, tk, tg, tp, ni, hf_87_5, hf_107_32, ha_90, ha_91, ha_92, ha_109, ha_136, ha_137, ha_138] at q ⊢
  exact q
def j_stat (M : zMM) : Prop :=
  ∀ i, i < 3 → M 93 i = M 122 i
def d_j_stat : zWs := ([], [93, 122])
theorem j_stat.fr {w : zWs} {M M' : zMM} (hd : z_dis w d_j_stat = true) (h : z_fr w M M') (q : j_stat M) : j_stat M' := by
  have ha_93 : ∀ b, M' 93 b = M 93 b := z_dis_a hd h (by decide)
  have ha_122 : ∀ b, M' 122 b = M 122 b := z_dis_a hd h (by decide)
  unfold j_stat at q ⊢
  simp only [tw, tk, tg, tp, ni, ha_93, ha_122] at q ⊢
  exact q
def j_plan (M : zMM) : Prop :=
  M 103 7 = M 107 53 ∧ z_zb (M 107 53) = true ∧ (M 107 53 = 1 → ∀ t, t < tk M → M 106 t = M 142 t)
def d_j_plan : zWs := ([(103, 7), (107, 53)], [106, 109, 142])
theorem j_plan.fr {w : zWs} {M M' : zMM} (hd : z_dis w d_j_plan = true) (h : z_fr w M M') (q : j_plan M) : j_plan M' := by
  have hf_103_7 : M' 103 7 = M 103 7 := z_dis_f hd h (by decide)
  have hf_107_53 : M' 107 53 = M 107 53 := z_dis_f hd h (by decide)
  have ha_106 : ∀ b, M' 106 b = M 106 b := z_dis_a hd h (by decide)
  have ha_109 : ∀ b, M' 109 b = M 109 b := z_dis_a hd h (by decide)
  have ha_142 : ∀ b, M' 142 b = M 142 b := z_dis_a hd h (by decide)
  unfold j_plan at q ⊢
  simp only [tw, tk, tg, tp, ni, hf_103_7, hf_107_53, ha_106, ha_109, ha_142] at q ⊢
  exact q
def j_st1 (M : zMM) : Prop :=
  ∀ j, j < 16 → M 1 j = z_spr.getD j 0
def d_j_st1 : zWs := ([], [1])
theorem j_st1.fr {w : zWs} {M M' : zMM} (hd : z_dis w d_j_st1 = true) (h : z_fr w M M') (q : j_st1 M) : j_st1 M' := by
  have ha_1 : ∀ b, M' 1 b = M 1 b := z_dis_a hd h (by decide)
  unfold j_st1 at q ⊢
  simp only [tw, tk, tg, tp, ni, ha_1] at q ⊢
  exact q
def j_st2 (M : zMM) : Prop :=
  (∀ j, j < z_sln.getD 0 0 → M 27 j = (z_sby.getD 0 []).getD j 0) ∧ (∀ j, j < z_sln.getD 1 0 → M 28 j = (z_sby.getD 1 []).getD j 0) ∧ (∀ j, j < z_sln.getD 2 0 → M 29 j = (z_sby.getD 2 []).getD j 0) ∧ (∀ j, j < z_sln.getD 3 0 → M 30 j = (z_sby.getD 3 []).getD j 0) ∧ (∀ j, j < z_sln.getD 4 0 → M 31 j = (z_sby.getD 4 []).getD j 0) ∧ (∀ j, j < z_sln.getD 5 0 → M 32 j = (z_sby.getD 5 []).getD j 0) ∧ (∀ j, j < z_sln.getD 6 0 → M 33 j = (z_sby.getD 6 []).getD j 0) ∧ (∀ j, j < z_sln.getD 7 0 → M 34 j = (z_sby.getD 7 []).getD j 0) ∧ (∀ j, j < z_sln.getD 8 0 → M 35 j = (z_sby.getD 8 []).getD j 0) ∧ (∀ j, j < z_sln.getD 9 0 → M 36 j = (z_sby.getD 9 []).getD j 0) ∧ (∀ j, j < z_sln.getD 10 0 → M 37 j = (z_sby.getD 10 []).getD j 0) ∧ (∀ j, j < z_sln.getD 11 0 → M 38 j = (z_sby.getD 11 []).getD j 0) ∧ (∀ j, j < z_sln.getD 12 0 → M 39 j = (z_sby.getD 12 []).getD j 0) ∧ (∀ j, j < z_sln.getD 13 0 → M 40 j = (z_sby.getD 13 []).getD j 0) ∧ (∀ j, j < z_sln.getD 14 0 → M 41 j = (z_sby.getD 14 []).getD j 0) ∧ (∀ j, j < z_sln.getD 15 0 → M 42 j = (z_sby.getD 15 []).getD j 0) ∧ (∀ j, j < z_sln.getD 16 0 → M 43 j = (z_sby.getD 16 []).getD j 0) ∧ (∀ j, j < z_sln.getD 17 0 → M 44 j = (z_sby.getD 17 []).getD j 0) ∧ (∀ j, j < z_sln.getD 18 0 → M 45 j = (z_sby.getD 18 []).getD j 0) ∧ (∀ j, j < z_sln.getD 19 0 → M 46 j = (z_sby.getD 19 []).getD j 0) ∧ (∀ j, j < z_sln.getD 20 0 → M 47 j = (z_sby.getD 20 []).getD j 0) ∧ (∀ j, j < z_sln.getD 21 0 → M 48 j = (z_sby.getD 21 []).getD j 0) ∧ (∀ j, j < z_sln.getD 22 0 → M 49 j = (z_sby.getD 22 []).getD j 0) ∧ (∀ j, j < z_sln.getD 23 0 → M 50 j = (z_sby.getD 23 []).getD j 0)
def d_j_st2 : zWs := ([], [27, 28, 29, 30, 31, 32, 33, 34, 35, 36, 37, 38, 39, 40, 41, 42, 43, 44, 45, 46, 47, 48, 49, 50])
theorem j_st2.fr {w : zWs} {M M' : zMM} (hd : z_dis w d_j_st2 = true) (h : z_fr w M M') (q : j_st2 M) : j_st2 M' := by
  have ha_27 : ∀ b, M' 27 b = M 27 b := z_dis_a hd h (by decide)
  have ha_28 : ∀ b, M' 28 b = M 28 b := z_dis_a hd h (by decide)
  have ha_29 : ∀ b, M' 29 b = M 29 b := z_dis_a hd h (by decide)
  have ha_30 : ∀ b, M' 30 b = M 30 b := z_dis_a hd h (by decide)
  have ha_31 : ∀ b, M' 31 b = M 31 b := z_dis_a hd h (by decide)
  have ha_32 : ∀ b, M' 32 b = M 32 b := z_dis_a hd h (by decide)
  have ha_33 : ∀ b, M' 33 b = M 33 b := z_dis_a hd h (by decide)
  have ha_34 : ∀ b, M' 34 b = M 34 b := z_dis_a hd h (by decide)
  have ha_35 : ∀ b, M' 35 b = M 35 b := z_dis_a hd h (by decide)
  have ha_36 : ∀ b, M' 36 b = M 36 b := z_dis_a hd h (by decide)
  have ha_37 : ∀ b, M' 37 b = M 37 b := z_dis_a hd h (by decide)
  have ha_38 : ∀ b, M' 38 b = M 38 b := z_dis_a hd h (by decide)
  have ha_39 : ∀ b, M' 39 b = M 39 b := z_dis_a hd h (by decide)
  have ha_40 : ∀ b, M' 40 b = M 40 b := z_dis_a hd h (by decide)
  have ha_41 : ∀ b, M' 41 b = M 41 b := z_dis_a hd h (by decide)
  have ha_42 : ∀ b, M' 42 b = M 42 b := z_dis_a hd h (by decide)
  have ha_43 : ∀ b, M' 43 b = M 43 b := z_dis_a hd h (by decide)
  have ha_44 : ∀ b, M' 44 b = M 44 b := z_dis_a hd h (by decide)
  have ha_45 : ∀ b, M' 45 b = M 45 b := z_dis_a hd h (by decide)
  have ha_46 : ∀ b, M' 46 b = M 46 b := z_dis_a hd h (by decide)
  have ha_47 : ∀ b, M' 47 b = M 47 b := z_dis_a hd h (by decide)
  have ha_48 : ∀ b, M' 48 b = M 48 b := z_dis_a hd h (by decide)
  have ha_49 : ∀ b, M' 49 b = M 49 b := z_dis_a hd h (by decide)
  have ha_50 : ∀ b, M' 50 b = M 50 b := z_dis_a hd h (by decide)
  unfold j_st2 at q ⊢
  simp only [tw, tk, tg, tp, ni, ha_27, ha_28, ha_29, ha_30, ha_31, ha_32, ha_33, ha_34, ha_35, ha_36, ha_37, ha_38, ha_39, ha_40, ha_41, ha_42, ha_43, ha_44, ha_45, ha_46, ha_47, ha_48, ha_49, ha_50] at q ⊢
  exact q
def j_img (k : Nat) (M : zMM) : Prop :=
  M 51 10 = M 107 54 ∧ z_zb (M 107 54) = true ∧ (M 107 54 = 1 → M 94 2 = M 107 56 ∧ z_bd (M 107 56) 0 (100 * k) ∧ M 94 3 = M 107 55 ∧ z_zb (M 107 55) = true ∧ (M 107 55 = 1 → M 94 4 = M 107 57) ∧
    M 94 5 = M 107 58 ∧ z_bd (M 107 58) 0 4 ∧ (∀ t, t < tk M → M 95 t = M 143 t ∧ 0 ≤ (M 143 t).toInt ∧ (M 143 t).toNatClampNeg < tw M ∧ M 96 t = M 144 t ∧ z_bd (M 144 t) 0 (100 * k + 100)) ∧ (∀ t, tk M ≤ t → t < 5 → M 95 t = -1) ∧
    (∀ n, n < (M 107 58).toNatClampNeg → M 97 n = M 145 n ∧ z_bd (M 145 n) 0 99 ∧ M 98 n = M 146 n ∧ 0 ≤ (M 146 n).toInt ∧ (M 146 n).toNatClampNeg < tw M ∧ M 99 n = M 147 n ∧ 0 ≤ (M 147 n).toInt ∧ (M 147 n).toNatClampNeg < tp M) ∧ (∀ n, n + 1 < (M 107 58).toNatClampNeg → (M 145 n).toInt ≤ (M 145 (n + 1)).toInt) ∧ ∀ i, i < 3 → M 100 i = M 148 i)
def d_j_img : zWs := ([(51, 10), (107, 54), (94, 2), (94, 3), (94, 4), (94, 5), (107, 55), (107, 56), (107, 57), (107, 58)], [95, 96, 97, 98, 99, 100, 109, 143, 144, 145, 146, 147, 148])
theorem j_img.fr {w : zWs} {M M' : zMM} {k : Nat} (hd : z_dis w d_j_img = true) (h : z_fr w M M') (q : j_img k M) : j_img k M' := by
  have hf_51_10 : M' 51 10 = M 51 10 := z_dis_f hd h (by decide)
  have hf_107_54 : M' 107 54 = M 107 54 := z_dis_f hd h (by decide)
  have hf_94_2 : M' 94 2 = M 94 2 := z_dis_f hd h (by decide)
  have hf_94_3 : M' 94 3 = M 94 3 := z_dis_f hd h (by decide)
  have hf_94_4 : M' 94 4 = M 94 4 := z_dis_f hd h (by decide)
  have hf_94_5 : M' 94 5 = M 94 5 := z_dis_f hd h (by decide)
  have hf_107_55 : M' 107 55 = M 107 55 := z_dis_f hd h (by decide)
  have hf_107_56 : M' 107 56 = M 107 56 := z_dis_f hd h (by decide)
  have hf_107_57 : M' 107 57 = M 107 57 := z_dis_f hd h (by decide)
  have hf_107_58 : M' 107 58 = M 107 58 := z_dis_f hd h (by decide)
  have ha_95 : ∀ b, M' 95 b = M 95 b := z_dis_a hd h (by decide)
  have ha_96 : ∀ b, M' 96 b = M 96 b := z_dis_a hd h (by decide)
  have ha_97 : ∀ b, M' 97 b = M 97 b := z_dis_a hd h (by decide)
  have ha_98 : ∀ b, M' 98 b = M 98 b := z_dis_a hd h (by decide)
  have ha_99 : ∀ b, M' 99 b = M 99 b := z_dis_a hd h (by decide)
  have ha_100 : ∀ b, M' 100 b = M 100 b := z_dis_a hd h (by decide)
  have ha_109 : ∀ b, M' 109 b = M 109 b := z_dis_a hd h (by decide)
  have ha_143 : ∀ b, M' 143 b = M 143 b := z_dis_a hd h (by decide)
  have ha_144 : ∀ b, M' 144 b = M 144 b := z_dis_a hd h (by decide)
  have ha_145 : ∀ b, M' 145 b = M 145 b := z_dis_a hd h (by decide)
  have ha_146 : ∀ b, M' 146 b = M 146 b := z_dis_a hd h (by decide)
  have ha_147 : ∀ b, M' 147 b = M 147 b := z_dis_a hd h (by decide)
  have ha_148 : ∀ b, M' 148 b = M 148 b := z_dis_a hd h (by decide)
  unfold j_img at q ⊢
  simp only [tw, tk, tg, tp, ni, hf_51_10, hf_107_54, hf_94_2, hf_94_3, hf_94_4, hf_94_5, hf_107_55, hf_107_56, hf_107_57, hf_107_58, ha_95, ha_96, ha_97, ha_98, ha_99, ha_100, ha_109, ha_143, ha_144, ha_145, ha_146, ha_147, ha_148] at q ⊢
  exact q
/-- the row of the i-th newest thing that can be undone -/
def un (M : zMM) : Nat := (M 107 31).toNatClampNeg
def rw_ (M : zMM) (i c : Nat) : Int32 := M 102 (13 * (((M 101 1).toNatClampNeg + 100 - i) % 100) + c)
def pv_ (M : zMM) (i t : Nat) : Int32 := if i = 0 then M 88 t else rw_ M (i - 1) (3 + 2 * t)
def pc_ (M : zMM) (i t : Nat) : Int32 := if i = 0 then M 89 t else rw_ M (i - 1) (4 + 2 * t)
def j_past (k : Nat) (M : zMM) : Prop :=
  M 101 2 = M 107 31 ∧ z_bd (M 107 31) 0 100 ∧ z_bd (M 101 1) 0 99 ∧ ∀ i, i < un M →
    rw_ M i 0 = M 133 (un M - 1 - i) ∧ z_bd (M 133 (un M - 1 - i)) 0 (100 * k) ∧ rw_ M i 1 = M 135 (un M - 1 - i) ∧ z_zb (M 135 (un M - 1 - i)) = true ∧ (M 135 (un M - 1 - i) = 1 → rw_ M i 2 = M 134 (un M - 1 - i)) ∧
    (∀ t, t < tk M → 0 ≤ (rw_ M i (3 + 2 * t)).toInt ∧ (rw_ M i (3 + 2 * t)).toNatClampNeg < tw M ∧ z_bd (rw_ M i (4 + 2 * t)) 0 (100 * k + 100)) ∧ (∀ t, tk M ≤ t → t < 5 → rw_ M i (3 + 2 * t) = -1) ∧
    ((M 130 (un M - 1 - i) = -1 ∧ ∀ t, t < 5 → rw_ M i (3 + 2 * t) = pv_ M i t ∧ rw_ M i (4 + 2 * t) = pc_ M i t) ∨
      ∃ t0, t0 < tk M ∧ M 130 (un M - 1 - i) = nI t0 ∧ rw_ M i (3 + 2 * t0) = M 131 (un M - 1 - i) ∧ rw_ M i (4 + 2 * t0) = M 132 (un M - 1 - i) ∧ ∀ t, t < 5 → t ≠ t0 → rw_ M i (3 + 2 * t) = pv_ M i t ∧ rw_ M i (4 + 2 * t) = pc_ M i t)
def d_j_past : zWs := ([(101, 1), (101, 2), (107, 31)], [88, 89, 102, 109, 130, 131, 132, 133, 134, 135])
theorem j_past.fr {w : zWs} {M M' : zMM} {k : Nat} (hd : z_dis w d_j_past = true) (h : z_fr w M M') (q : j_past k M) : j_past k M' := by
  have hf_101_1 : M' 101 1 = M 101 1 := z_dis_f hd h (by decide)
  have hf_101_2 : M' 101 2 = M 101 2 := z_dis_f hd h (by decide)
  have hf_107_31 : M' 107 31 = M 107 31 := z_dis_f hd h (by decide)
  have ha_88 : ∀ b, M' 88 b = M 88 b := z_dis_a hd h (by decide)
  have ha_89 : ∀ b, M' 89 b = M 89 b := z_dis_a hd h (by decide)
  have ha_102 : ∀ b, M' 102 b = M 102 b := z_dis_a hd h (by decide)
  have ha_109 : ∀ b, M' 109 b = M 109 b := z_dis_a hd h (by decide)
  have ha_130 : ∀ b, M' 130 b = M 130 b := z_dis_a hd h (by decide)
  have ha_131 : ∀ b, M' 131 b = M 131 b := z_dis_a hd h (by decide)
  have ha_132 : ∀ b, M' 132 b = M 132 b := z_dis_a hd h (by decide)
  have ha_133 : ∀ b, M' 133 b = M 133 b := z_dis_a hd h (by decide)
  have ha_134 : ∀ b, M' 134 b = M 134 b := z_dis_a hd h (by decide)
  have ha_135 : ∀ b, M' 135 b = M 135 b := z_dis_a hd h (by decide)
  unfold j_past at q ⊢
  simp only [tw, tk, tg, tp, ni, un, rw_, pv_, pc_, hf_101_1, hf_101_2, hf_107_31, ha_88, ha_89, ha_102, ha_109, ha_130, ha_131, ha_132, ha_133, ha_134, ha_135] at q ⊢
  exact q
def j_ways (M : zMM) : Prop :=
  0 < tw M → (∀ a, a < 5 → ∀ b, b < 5 → M 126 (5 * a + b) = nI (wd M a b) ∧ ((wd M a b = 1000000 ∧ M 81 (5 * a + b) = -1) ∨ (wd M a b < 1000 ∧ M 81 (5 * a + b) = nI (wd M a b)))) ∧
    (∀ a, a < 5 → wd M a a = 0) ∧ (∀ a, a < 5 → ∀ b, b < 5 → ∀ c, c < 5 → wd M a b ≤ wd M a c + wd M c b) ∧
    (∀ a, a < 5 → ∀ b, b < 5 → a ≠ b → wd M a b < 1000 → ∃ x, x < 5 ∧ M 127 (5 * a + b) = nI x ∧ 0 < tr M a x ∧ tr M a x + wd M x b = wd M a b ∧ ∀ y, y < x → ¬ (0 < tr M a y ∧ tr M a y + wd M y b = wd M a b))
def d_j_ways : zWs := ([], [81, 109, 114, 126, 127])
theorem j_ways.fr {w : zWs} {M M' : zMM} (hd : z_dis w d_j_ways = true) (h : z_fr w M M') (q : j_ways M) : j_ways M' := by
  have ha_81 : ∀ b, M' 81 b = M 81 b := z_dis_a hd h (by decide)
  have ha_109 : ∀ b, M' 109 b = M 109 b := z_dis_a hd h (by decide)
  have ha_114 : ∀ b, M' 114 b = M 114 b := z_dis_a hd h (by decide)
  have ha_126 : ∀ b, M' 126 b = M 126 b := z_dis_a hd h (by decide)
  have ha_127 : ∀ b, M' 127 b = M 127 b := z_dis_a hd h (by decide)
  unfold j_ways at q ⊢
  simp only [tw, tk, tg, tp, ni, wd, tr, ha_81, ha_109, ha_114, ha_126, ha_127] at q ⊢
  exact q
def j_known (M : zMM) : Prop :=
  ∀ p, p < tp M → ∀ t, t < tw M → ∀ s, s < 32 → M 84 ((5 * p + t) * 32 + s) = -2 ∨ z_ls (zP M (so_ M) p t (tL M s)) (M 84 ((5 * p + t) * 32 + s))
def d_j_known : zWs := ([], [84, 109, 112, 113, 116, 117, 119, 120, 121])
theorem j_known.fr {w : zWs} {M M' : zMM} (hd : z_dis w d_j_known = true) (h : z_fr w M M') (q : j_known M) : j_known M' := by
  have ha_84 : ∀ b, M' 84 b = M 84 b := z_dis_a hd h (by decide)
  have ha_109 : ∀ b, M' 109 b = M 109 b := z_dis_a hd h (by decide)
  have ha_112 : ∀ b, M' 112 b = M 112 b := z_dis_a hd h (by decide)
  have ha_113 : ∀ b, M' 113 b = M 113 b := z_dis_a hd h (by decide)
  have ha_116 : ∀ b, M' 116 b = M 116 b := z_dis_a hd h (by decide)
  have ha_117 : ∀ b, M' 117 b = M 117 b := z_dis_a hd h (by decide)
  have ha_119 : ∀ b, M' 119 b = M 119 b := z_dis_a hd h (by decide)
  have ha_120 : ∀ b, M' 120 b = M 120 b := z_dis_a hd h (by decide)
  have ha_121 : ∀ b, M' 121 b = M 121 b := z_dis_a hd h (by decide)
  unfold j_known at q ⊢
  have e2 : so_ M' = so_ M := by
    funext t
    simp only [so_, ha_116]
  have e3 : ∀ p, zq M' (so_ M) p = zq M (so_ M) p := by
    intro p
    funext t j
    show sm_ M' (so_ M t) (nd_ M' p j) = sm_ M (so_ M t) (nd_ M p j)
    have e : nd_ M' p j = nd_ M p j := by unfold nd_; rw [ha_119]
    rw [e]
    unfold sm_
    rw [ha_121]
  have e4 : ∀ s, tL M' s = tL M s := by
    intro s
    funext g
    unfold tL
    rw [ha_109, ha_117]
  have e5 : ∀ p t L, zP M' (so_ M) p t L = zP M (so_ M) p t L := by
    intro p t L
    funext v
    simp only [zP, e3, ha_113, ha_120, ha_112]
  simp only [tw, tk, tg, tp, ni, e2, e4, e5, ha_84, ha_109, ha_112, ha_113, ha_116, ha_117, ha_119, ha_120, ha_121] at q ⊢
  exact q
