/-! ===== feed ===== -/
def b8 (x : Int32) (s : Nat) : Int32 := (z_ush x (nI s)).toInt8.toInt32.toInt8.toInt32
theorem gb_t8 {y : Int32} {u : Nat} (hu : u < 8) : gb y.toInt8.toInt32 u = gb y u := by
  unfold gb
  rw [Int8.toBitVec_toInt32, BitVec.getLsbD_signExtend, Int32.toBitVec_toInt8, decide_eq_true (by omega), if_pos hu, BitVec.getLsbD_signExtend, decide_eq_true hu, if_pos (by omega)]
  rfl
theorem b8_bd (x : Int32) (s : Nat) : z_bd (b8 x s) (-128) 127 := by
  unfold b8 z_bd
  have h1 := Int8.toInt_lt ((z_ush x (nI s)).toInt8.toInt32.toInt8)
  have h2 := Int8.le_toInt ((z_ush x (nI s)).toInt8.toInt32.toInt8)
  rw [Int8.toInt_toInt32]
  omega
theorem b8_and {x : Int32} {s : Nat} (hs : s ≤ 24) : (x >>> (nI s &&& 31)) &&& (255 : Int32) = b8 x s &&& 255 := by
  apply gb_ext
  intro u hu
  rw [gb_and, gb_and, show (255 : Int32) = nI (2 ^ 8 - 1) from rfl, gb_n hu, Nat.testBit_two_pow_sub_one]
  by_cases h : u < 8
  · unfold b8
    rw [gb_t8 h, gb_t8 h, gb_ushq (by omega), gb_sarq (by omega)]
  · rw [decide_eq_false h, Bool.and_false, Bool.and_false]
theorem e_putN {x : Int32} : ∀ k f M fu, k ≤ 4 → M 51 1 = nI f → f + k ≤ 700 → k < fu → ∃ M', f_X7_putNumber_51_p3 fu x (nI (8 * k) + (-8 : Int32)) M = some M' ∧ M' 51 1 = nI (f + k) ∧ (∀ i, i < k → M' 52 (f + i) = b8 x (8 * (k - 1 - i))) ∧ (∀ b, b < f ∨ f + k ≤ b → M' 52 b = M 52 b) := by
  intro k
  induction k with
  | zero =>
    intro f M fu _ hM hf hfu
    obtain ⟨fu, rfl⟩ : ∃ m, fu = m + 1 := ⟨fu - 1, by omega⟩
    exact ⟨M, if_pos (by decide), hM, fun i hi => by omega, fun _ _ => rfl⟩
  | succ k ih =>
    intro f M fu hk hM hf hfu
    obtain ⟨fu, rfl⟩ : ∃ m, fu = m + 1 := ⟨fu - 1, by omega⟩
    have e1 : nI (8 * (k + 1)) + (-8 : Int32) = nI (8 * k) := by
      rw [show nI (8 * (k + 1)) + (-8 : Int32) = nI (8 * (k + 1)) - (8 : Int32) from (Int32.sub_eq_add_neg _ _).symm, show nI (8 * (k + 1)) - (8 : Int32) = nI (8 * (k + 1) - 8) from nI_subq (b := 8) (by omega) (by omega), show 8 * (k + 1) - 8 = 8 * k by omega]
    unfold f_X7_putNumber_51_p3
    rw [e1, if_neg (nI_pos (by omega)), hM, if_neg (nI_pos (by omega)), if_neg (show ¬ (700 : Int32) ≤ nI f from nI_ge (b := 700) (by omega) (by decide)), if_pos (z_ib_n (by decide) (by omega)), nI_clamp (by omega), nI_1]
    obtain ⟨M', a1, a2, a3, a4⟩ := ih (f + 1) (z_up (z_up M 52 f (b8 x (8 * k))) 51 1 (nI (f + 1))) fu (by omega) z_up_s (by omega) (by omega)
    refine ⟨M', a1, by rw [a2, show f + 1 + k = f + (k + 1) by omega], fun i hi => ?_, fun b hb => ?_⟩
    · by_cases hi0 : i = 0
      · rw [hi0, a4 (f + 0) (by omega), z_up_o (by decide), show f + 0 = f by omega, z_up_s, show k + 1 - 1 - 0 = k by omega]
      · have := a3 (i - 1) (by omega)
        rw [show f + 1 + (i - 1) = f + i by omega, show k - 1 - (i - 1) = k + 1 - 1 - i by omega] at this
        exact this
    · rw [a4 b (by omega), z_up_o (by decide), z_up_n (by omega)]
theorem e_put4 {x : Int32} {f : Nat} {M : zMM} (hM : M 51 1 = nI f) (hf : f + 4 ≤ 700) : ∃ M', f_X7_putNumber_51 x M = some M' ∧ M' 51 1 = nI (f + 4) ∧ (∀ i, i < 4 → M' 52 (f + i) = b8 x (24 - 8 * i)) ∧ (∀ b, b < f ∨ f + 4 ≤ b → M' 52 b = M 52 b) := by
  obtain ⟨M', a1, a2, a3, a4⟩ := e_putN (x := x) 4 f M z_fuel (by omega) hM hf (by decide)
  refine ⟨M', a1, a2, fun i hi => ?_, a4⟩
  rw [a3 i hi, show 8 * (4 - 1 - i) = 24 - 8 * i by omega]
def x5q (x1 x2 x3 x4 x5 : Int32) (w : Nat) : Int32 := if w = 0 then x1 else if w = 1 then x2 else if w = 2 then x3 else if w = 3 then x4 else x5
theorem e_feed7 {x1 x2 x3 x4 x5 : Int32} {f : Nat} {M : zMM} (hM : M 51 1 = nI f) (hf : f ≤ 680) : ∃ M', f_X7_feed_51 x1 x2 x3 x4 x5 M = some (nI (f + 20), M') ∧ M' 51 1 = nI (f + 20) ∧ (∀ i, i < 20 → M' 52 (f + i) = b8 (x5q x1 x2 x3 x4 x5 (i / 4)) (24 - 8 * (i % 4))) ∧ (∀ b, b < f → M' 52 b = M 52 b) := by
  obtain ⟨M1, a1, a2, a3, a4⟩ := e_put4 (x := x1) hM (by omega)
  obtain ⟨M2, b1, b2, b3, b4⟩ := e_put4 (x := x2) a2 (by omega)
  obtain ⟨M3, c1, c2, c3, c4⟩ := e_put4 (x := x3) b2 (by omega)
  obtain ⟨M4, d1, d2, d3, d4⟩ := e_put4 (x := x4) c2 (by omega)
  obtain ⟨M5, e1, e2, e3, e4⟩ := e_put4 (x := x5) d2 (by omega)
  refine ⟨M5, ?_, e2, fun i hi => ?_, fun b hb => ?_⟩
  · unfold f_X7_feed_51
    rw [hM, if_pos (show nI f ≤ (680 : Int32) from nI_le (b := 680) hf (by decide)), a1, z_bv_s, b1, z_bv_s, c1, z_bv_s, d1, z_bv_s, e1, z_bv_s, e2, show f + 4 + 4 + 4 + 4 + 4 = f + 20 by omega]
  · have hw : i / 4 = 0 ∨ i / 4 = 1 ∨ i / 4 = 2 ∨ i / 4 = 3 ∨ i / 4 = 4 := by omega
    rcases hw with hw | hw | hw | hw | hw
    · rw [hw, e4 _ (by omega), d4 _ (by omega), c4 _ (by omega), b4 _ (by omega), show f + i = f + (i % 4) by omega, a3 (i % 4) (by omega)]; rfl
    · rw [hw, e4 _ (by omega), d4 _ (by omega), c4 _ (by omega), show f + i = f + 4 + (i % 4) by omega, b3 (i % 4) (by omega)]; rfl
    · rw [hw, e4 _ (by omega), d4 _ (by omega), show f + i = f + 4 + 4 + (i % 4) by omega, c3 (i % 4) (by omega)]; rfl
    · rw [hw, e4 _ (by omega), show f + i = f + 4 + 4 + 4 + (i % 4) by omega, d3 (i % 4) (by omega)]; rfl
    · rw [hw, show f + i = f + 4 + 4 + 4 + 4 + (i % 4) by omega, e3 (i % 4) (by omega)]; rfl
  · rw [e4 b (by omega), d4 b (by omega), c4 b (by omega), b4 b (by omega), a4 b (by omega)]
theorem k20 : ∀ k : Nat, k < 20 → (24 : Int32) - ((8 : Int32) * (nI k - nI k / (4 : Int32) * (4 : Int32))) = nI (24 - 8 * (k % 4)) := by decide +kernel
theorem e_feed8 {x1 x2 x3 x4 x5 : Int32} : ∀ r k, k + r = 20 → ∀ fu f M, r < fu → M 107 17 = nI (f + k) → f ≤ 680 → ∃ M', f_X8_feed_107_p23 fu x1 x2 x3 x4 x5 (nI k) M = some (nI (f + 20), M') ∧ M' 107 17 = nI (f + 20) ∧ (∀ i, k ≤ i → i < 20 → M' 123 (f + i) = (x5q x1 x2 x3 x4 x5 (i / 4) >>> (nI (24 - 8 * (i % 4)) &&& 31)) &&& 255) ∧ (∀ b, b < f + k → M' 123 b = M 123 b) ∧ z_fr ([(107, 17)], [123]) M M' := by
  intro r
  induction r with
  | zero =>
    intro k hk fu f M hfu hM hf
    obtain ⟨fu, rfl⟩ : ∃ m, fu = m + 1 := ⟨fu - 1, by omega⟩
    have hk20 : k = 20 := by omega
    unfold f_X8_feed_107_p23
    rw [if_pos (show (20 : Int32) ≤ nI k from nI_le (a := 20) (by omega) (by omega)), hM, hk20]
    rw [hk20] at hM
    exact ⟨M, rfl, hM, fun i h1 h2 => by omega, fun _ _ => rfl, z_fr.refl⟩
  | succ r ih =>
    intro k hk fu f M hfu hM hf
    obtain ⟨fu, rfl⟩ : ∃ m, fu = m + 1 := ⟨fu - 1, by omega⟩
    have go : f_X8_feed_107_p23 (fu + 1) x1 x2 x3 x4 x5 (nI k) M = f_X8_feed_107_p76 (f_X8_feed_107_p23 fu) x1 x2 x3 x4 x5 (nI k) (x5q x1 x2 x3 x4 x5 (k / 4)) M := by
      have yes : ∀ c : Nat, c < 2 ^ 31 → c ≤ k → nI c ≤ nI k := fun c hc h => nI_le h (by omega)
      have no : ∀ c : Nat, c < 2 ^ 31 → k < c → ¬ nI c ≤ nI k := fun c hc h => nI_ge h hc
      unfold f_X8_feed_107_p23
      rw [if_neg (show ¬ (20 : Int32) ≤ nI k from no 20 (by decide) (by omega))]
      have hw : k / 4 = 0 ∨ k / 4 = 1 ∨ k / 4 = 2 ∨ k / 4 = 3 ∨ k / 4 = 4 := by omega
      rcases hw with hw | hw | hw | hw | hw
      · rw [if_neg (show ¬ (4 : Int32) ≤ nI k from no 4 (by decide) (by omega)), hw]; rfl
      · rw [if_pos (show (4 : Int32) ≤ nI k from yes 4 (by decide) (by omega)), if_neg (show ¬ (8 : Int32) ≤ nI k from no 8 (by decide) (by omega)), hw]; rfl
      · rw [if_pos (show (4 : Int32) ≤ nI k from yes 4 (by decide) (by omega)), if_pos (show (8 : Int32) ≤ nI k from yes 8 (by decide) (by omega)), if_neg (show ¬ (12 : Int32) ≤ nI k from no 12 (by decide) (by omega)), hw]; rfl
      · rw [if_pos (show (4 : Int32) ≤ nI k from yes 4 (by decide) (by omega)), if_pos (show (8 : Int32) ≤ nI k from yes 8 (by decide) (by omega)), if_pos (show (12 : Int32) ≤ nI k from yes 12 (by decide) (by omega)), if_neg (show ¬ (16 : Int32) ≤ nI k from no 16 (by decide) (by omega)), hw]; rfl
      · rw [if_pos (show (4 : Int32) ≤ nI k from yes 4 (by decide) (by omega)), if_pos (show (8 : Int32) ≤ nI k from yes 8 (by decide) (by omega)), if_pos (show (12 : Int32) ≤ nI k from yes 12 (by decide) (by omega)), if_pos (show (16 : Int32) ≤ nI k from yes 16 (by decide) (by omega)), hw]; rfl
    rw [go]
    unfold f_X8_feed_107_p76
    rw [hM, if_pos (z_ib_n (by decide) (by omega)), nI_clamp (by omega), k20 k (by omega), nI_1, nI_1]
    obtain ⟨M', a1, a2, a3, a4, a5⟩ := ih (k + 1) (by omega) fu f (z_up (z_up M 123 (f + k) ((x5q x1 x2 x3 x4 x5 (k / 4) >>> (nI (24 - 8 * (k % 4)) &&& 31)) &&& 255)) 107 17 (nI (f + k + 1))) (by omega) z_up_s hf
    refine ⟨M', a1, a2, fun i h1 h2 => ?_, fun b hb => ?_, ((z_fr.refl.up rfl).up rfl).trans a5⟩
    · by_cases hik : i = k
      · rw [a4 (f + i) (by omega), z_up_o (by decide), hik, z_up_s]
      · exact a3 i (by omega) h2
    · rw [a4 b (by omega), z_up_o (by decide), z_up_n (by omega)]
theorem B_c0 : z_Cs f_L_c0 := by
  intro k K Ls j M Lm hk hL hj hI
  obtain ⟨t1, t2, t3⟩ := hI.j_tape
  obtain ⟨f, hf, f1, f2, f3⟩ := t2.nI
  have s1 := z_s1 hL hj
  have s2 := z_s2 hL hj
  have s3 := z_s3 hL hj
  have s4 := z_s4 hL hj
  have s5 := z_s5 hL hj
  have fin : ∀ (v : Int32) (M1 M2 : zMM), (∀ q, M1 0 q = M 0 q) → f_X7_feed_51 (M 0 (nI j + (1 : Int32)).toNatClampNeg) (M 0 (nI j + (2 : Int32)).toNatClampNeg) (M 0 (nI j + (3 : Int32)).toNatClampNeg) (M 0 (nI j + (4 : Int32)).toNatClampNeg) (M 0 (nI j + (5 : Int32)).toNatClampNeg) M = some (v, M1) → f_X8_feed_107 (M 0 (nI j + (1 : Int32)).toNatClampNeg) (M 0 (nI j + (2 : Int32)).toNatClampNeg) (M 0 (nI j + (3 : Int32)).toNatClampNeg) (M 0 (nI j + (4 : Int32)).toNatClampNeg) (M 0 (nI j + (5 : Int32)).toNatClampNeg) M1 = some (v, M2) → f_L_c0 K Ls (nI j) M Lm = K (nI j + 6) M2 Lm := by
    intro v M1 M2 h0 e7 e8
    unfold f_L_c0
    rw [if_pos s1, if_pos s2, if_pos s3, if_pos s4, if_pos s5, e7, z_bi_s, if_pos s1, if_pos s2, if_pos s3, if_pos s4, if_pos s5, h0, h0, h0, h0, h0, e8, z_bi_s, if_pos rfl]
  generalize (M 0 (nI j + (1 : Int32)).toNatClampNeg) = x1 at *
  generalize (M 0 (nI j + (2 : Int32)).toNatClampNeg) = x2 at *
  generalize (M 0 (nI j + (3 : Int32)).toNatClampNeg) = x3 at *
  generalize (M 0 (nI j + (4 : Int32)).toNatClampNeg) = x4 at *
  generalize (M 0 (nI j + (5 : Int32)).toNatClampNeg) = x5 at *
  by_cases hfull : f ≤ 680
  · obtain ⟨M1, a1, a2, a3, a4⟩ := e_feed7 (x1 := x1) (x2 := x2) (x3 := x3) (x4 := x4) (x5 := x5) (M := M) (t1.trans f1) hfull
    have fr7 := R_X7_feed_51 a1
    obtain ⟨M2, b1, b2, b3, b4, b5⟩ := e_feed8 (x1 := x1) (x2 := x2) (x3 := x3) (x4 := x4) (x5 := x5) 20 0 (by omega) z_fuel f (z_up M1 107 1 (0 : Int32)) (by unfold z_fuel; omega) ((show z_up M1 107 1 (0 : Int32) 107 17 = M1 107 17 from rfl).trans ((fr7 107 17 rfl).trans f1)) hfull
    have e8 : f_X8_feed_107 x1 x2 x3 x4 x5 M1 = some (nI (f + 20), M2) := by
      unfold f_X8_feed_107
      rw [fr7 107 17 rfl, f1, show nI f + (20 : Int32) = nI (f + 20) from nI_add f 20, if_pos (show nI (f + 20) ≤ (700 : Int32) from nI_le (b := 700) (by omega) (by decide))]
      exact b1
    refine ⟨M2, Lm, fin _ M1 M2 (fun q => fr7 0 q rfl) a1 e8, ?_⟩
    have hf' : z_fr ([(51, 1), (107, 1), (107, 17)], [52, 123]) M M2 := ((z_fr.refl.sub fr7 (by decide)).up rfl).sub b5 (by decide)
    have jt : j_tape M2 := by
      refine ⟨?_, ?_, fun i hi => ?_⟩
      · rw [b5 51 1 rfl, b2]; exact a2
      · rw [b2]; exact ⟨by rw [nI_toInt (by omega)]; omega, by rw [nI_toInt (by omega)]; omega⟩
      · rw [b2, nI_clamp (by omega)] at hi
        rw [b5 52 i rfl, show z_up M1 107 1 (0 : Int32) 52 i = M1 52 i from rfl]
        by_cases hif : i < f
        · rw [b4 i (by omega), show z_up M1 107 1 (0 : Int32) 123 i = M1 123 i from rfl, fr7 123 i rfl, a4 i hif]
          exact t3 i (by rw [f2]; exact hif)
        · obtain ⟨q, hq⟩ : ∃ q, i = f + q := ⟨i - f, by omega⟩
          rw [hq, a3 q (by omega), b3 q (by omega) (by omega), b8_and (by omega)]
          exact ⟨b8_bd _ _, rfl⟩
    exact ⟨jt, (hI.j_fault.fr (by decide) hf'), (hI.j_cnt.fr (by decide) hf'), (hI.j_town.fr (by decide) hf'), (hI.j_train.fr (by decide) hf'), (hI.j_thing.fr (by decide) hf'), (hI.j_play.fr (by decide) hf'), (hI.j_like.fr (by decide) hf'), (hI.j_day.fr (by decide) hf').mono, (hI.j_seed.fr (by decide) hf'), (hI.j_place.fr (by decide) hf').mono, (hI.j_night.fr (by decide) hf'), (hI.j_stat.fr (by decide) hf'), (hI.j_plan.fr (by decide) hf'), (hI.j_st1.fr (by decide) hf'), (hI.j_st2.fr (by decide) hf'), (hI.j_img.fr (by decide) hf').mono, (hI.j_past.fr (by decide) hf').mono, (hI.j_ways.fr (by decide) hf'), (hI.j_known.fr (by decide) hf')⟩
  · have a1 : f_X7_feed_51 x1 x2 x3 x4 x5 M = some ((-1 : Int32), M) := by
      unfold f_X7_feed_51
      rw [t1, f1, if_neg (show ¬ nI f ≤ (680 : Int32) from nI_ge (a := 680) (by omega) (by omega))]
    have e8 : f_X8_feed_107 x1 x2 x3 x4 x5 M = some ((-1 : Int32), z_up M 107 1 (0 : Int32)) := by
      unfold f_X8_feed_107
      rw [f1, show nI f + (20 : Int32) = nI (f + 20) from nI_add f 20, if_neg (show ¬ nI (f + 20) ≤ (700 : Int32) from nI_ge (a := 700) (by omega) (by omega))]
    exact ⟨_, Lm, fin _ M _ (fun _ => rfl) a1 e8, hI.code (z_fr.refl.up rfl)⟩
