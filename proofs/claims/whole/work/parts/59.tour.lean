/-! ===== tour, spared ===== -/
theorem e_head7 {k : Nat} {M : zMM} (hk : k < 600) (hI : z_I k M) : ∃ M2, (z_bv (f_X1_findFits_103 M) fun M3 => f_X1_findCosts_103 M3) = some M2 ∧ z_I k M2 ∧ z_fr w_sk M M2 ∧ FTB M M2 ∧ CTB M M2 (ni M) := by
  obtain ⟨M1, a1, a2⟩ := e_fits hk hI
  have fr : z_fr w_sc M M1 := z_sub_sc (R_X1_findFits_103 a1) (by decide)
  obtain ⟨M2, b1, b2, b3, b4, b5⟩ := e_costs hI (hI.sc fr) (sc_sk fr) a2
  exact ⟨M2, by rw [a1, z_bv_s, b1], b2, b3, b4, b5⟩
theorem w99 : ∀ t : Nat, t < 5 → (nI t = (-1 : Int32) ↔ t = 99) := fun t ht => ⟨fun z => absurd z (nI_m1 (by omega)), fun z => by omega⟩
theorem e_p23 : ∀ k j, j + k = 5 → ∀ fu x M, k < fu → ∃ M', f_X8_tour_107_p23 fu x (nI j) M = some (x, M') ∧ (∀ u, j ≤ u → u < 5 → M' 142 u = M 141 u) ∧ (∀ u, u < j → M' 142 u = M 142 u) ∧ ∀ a b, a ≠ 142 → M' a b = M a b := by
  intro k
  induction k with
  | zero =>
    intro j hj fu x M hk
    obtain ⟨fu, rfl⟩ : ∃ m, fu = m + 1 := ⟨fu - 1, by omega⟩
    exact ⟨M, if_pos (show (5 : Int32) ≤ nI j from nI_le (a := 5) (by omega) (by omega)), fun u h1 h2 => by omega, fun _ _ => rfl, fun _ _ _ => rfl⟩
  | succ k ih =>
    intro j hj fu x M hk
    obtain ⟨fu, rfl⟩ : ∃ m, fu = m + 1 := ⟨fu - 1, by omega⟩
    have ib : z_ib (nI j) 5 = true := z_ib_n (by decide) (by omega)
    unfold f_X8_tour_107_p23
    rw [if_neg (show ¬ (5 : Int32) ≤ nI j from nI_ge (b := 5) (by omega) (by decide)), if_pos ib, if_pos ib, nI_clamp (by omega), nI_1]
    obtain ⟨M', e1, e2, e3, e4⟩ := ih (j + 1) (by omega) fu x (z_up M 142 j (M 141 j)) (by omega)
    refine ⟨M', e1, fun u h1 h2 => ?_, fun u hu => ?_, fun a b hab => (e4 a b hab).trans (z_up_o hab)⟩
    · by_cases hu : u = j
      · rw [e3 u (by omega), hu, z_up_s]
      · rw [e2 u (by omega) h2]; exact z_up_o (by decide)
    · rw [e3 u (by omega)]
      exact z_up_n (by omega)
theorem B_c19 : z_Cs f_L_c19 := by
  intro k K Ls j M Lm hk hL hj hI
  have h5 := tk_le hI.j_cnt
  obtain ⟨M2, a1, a2, a3, a4, a5⟩ := e_head7 hk hI
  have fs6 : z_fr w_s6 M M2 := z_fr.refl.sub a3 (by decide)
  obtain ⟨y, b1, b2⟩ := e_leastFrom hk hI fs6 a4 a5 (w := 99) (xw := -1) w99 (tk M) 0 (by omega) 8 (by omega) (fun _ => 0) 0 AB_0 (fun u hu => absurd hu (by omega))
  have b3 := TS_ls hI (K := tk M) (by omega) b2
  have hplan : ∀ R, (if y = (-1 : Int32) then some ((-1 : Int32), M2) else f_X1_plan_103_p27 z_fuel y (0 : Int32) (0 : Int32) M2) = R → f_X7_tour_51 M = (z_bi R fun v2 M3 => some (v2, M3)) := by
    intro R hR
    obtain ⟨Mf, c1, c2⟩ := z_bv_c a1
    unfold f_X7_tour_51 f_X1_plan_103
    rw [c1, z_bv_s, c2, z_bv_s, show f_X1_leastFrom_103 8 (0 : Int32) (0 : Int32) (-1 : Int32) M2 = _ from b1, z_bi_s, hR]
  by_cases hy : y = -1
  · have e7 : f_X7_tour_51 M = some (-1, M2) := by rw [hplan _ (if_pos hy)]; rfl
    have hI2 : z_I k (z_up M2 107 1 (0 : Int32)) := a2.sc w1_sc
    obtain ⟨y', M3, c1, c2, c3, c4, c5, -⟩ := e_tw hk hI hI2 (a3.up rfl) (w := 99) (xw := -1) w99
    have hyy : y' = -1 := (c2.inj b3).trans hy
    have e8 : f_X8_tour_107 M2 = some (-1, M3) := by
      unfold f_X8_tour_107
      rw [c1, z_bi_s, hyy, if_pos rfl]
    refine ⟨M3, Lm, ?_, c3.up⟩
    unfold f_L_c19
    rw [e7, z_bi_s, e8, z_bi_s, if_pos rfl]
  · obtain ⟨v, hv, hv2⟩ : ∃ v, y = nI v ∧ v < 10000 := by
      rcases b3 with ⟨q, -⟩ | ⟨v, q1, q2, -⟩
      · exact absurd q hy
      · exact ⟨v, q1, q2⟩
    obtain ⟨y0, Mz, d1, d2, -, -, -, d6⟩ := e_tw hk hI hI z_fr.refl (w := 99) (xw := -1) w99
    have hFT := d6 v ((d2.inj b3).trans hv) hv2
    have hle : ∀ u, TS M (okq M 99) (tk M) 0 (fun _ => 0) u → v ≤ u := by
      rcases b3 with ⟨q, -⟩ | ⟨v', q1, q2, q3, q4⟩
      · exact absurd q hy
      · have : v = v' := (nI_eq (by omega) (by omega)).mp (hv.symm.trans q1)
        rw [this]; exact q4
    obtain ⟨M4, p1, p2, p3⟩ := e_planq hk hI hv2 (g := Mz 141) (tk M) 0 (by omega) z_fuel (fun _ => 0) 0 M2 (by unfold z_fuel; omega) fs6 a4 a5 AB_0 (fun u hu => absurd hu (by omega)) hle hFT (fun u hu => absurd hu (by omega))
    have e7 : f_X7_tour_51 M = some (nI v, z_up M4 103 7 (1 : Int32)) := by
      rw [hplan _ (if_neg hy), hv, show f_X1_plan_103_p27 z_fuel (nI v) (0 : Int32) (0 : Int32) M2 = _ from p1]
      rfl
    generalize hX : z_up (z_up M4 103 7 (1 : Int32)) 107 1 (0 : Int32) = X
    have fX : z_fr w_k7b M X := by rw [← hX]; exact (((z_fr.refl.sub a3 (by decide)).sub p2 (by decide)).up rfl).up rfl
    have fX2 : z_fr w_c7b M2 X := by rw [← hX]; exact ((z_fr.refl.sub p2 (by decide)).up rfl).up rfl
    obtain ⟨y', M5, c1, c2, c3, c4, c5, c6⟩ := e_tw_B hk (z_Bof hI) ((z_Bof a2).sc fX2) fX (w := 99) (xw := -1) w99
    have hyy : y' = nI v := (c2.inj b3).trans hv
    have hFT2 := c6 v hyy hv2
    obtain ⟨M6, g1, g2, g3, g4⟩ := e_p23 5 0 (by omega) z_fuel (nI v) (z_up M5 107 53 (1 : Int32)) (by unfold z_fuel; omega)
    have e8 : f_X8_tour_107 (z_up M4 103 7 (1 : Int32)) = some (nI v, M6) := by
      unfold f_X8_tour_107
      rw [hX, c1, z_bi_s, hyy, if_neg (nI_m1 (by omega))]
      exact g1
    refine ⟨M6, Lm, ?_, ?_⟩
    · unfold f_L_c19
      rw [e7, z_bi_s, e8, z_bi_s, if_pos rfl]
    · have fT : z_fr ([(107, 38), (107, 52)], [128, 129, 139, 140, 141]) X M5 := R_X8_tourWithout_107 c1
      have f6 : z_fr ([(107, 53)], [142]) M5 M6 := by
        intro a b hab
        by_cases ha : a = 142
        · rw [ha] at hab; exact absurd ((show z_ok ([(107, 53)], [142]) 142 b = false from rfl).symm.trans hab) (by decide)
        · rw [g4 a b ha]
          exact (z_fr.refl.up (w := ([(107, 53)], [142])) (M1 := M5) (r := 107) (i := 53) (v := (1 : Int32)) rfl) a b hab
      have z6 : z_B k M6 := ⟨(c3.j_tape.fr (by decide) f6), (c3.j_fault.fr (by decide) f6), (c3.j_cnt.fr (by decide) f6), (c3.j_town.fr (by decide) f6), (c3.j_train.fr (by decide) f6), (c3.j_thing.fr (by decide) f6), (c3.j_play.fr (by decide) f6), (c3.j_like.fr (by decide) f6), (c3.j_day.fr (by decide) f6), (c3.j_seed.fr (by decide) f6), (c3.j_place.fr (by decide) f6), (c3.j_night.fr (by decide) f6), (c3.j_stat.fr (by decide) f6), (c3.j_st1.fr (by decide) f6), (c3.j_st2.fr (by decide) f6), (c3.j_img.fr (by decide) f6), (c3.j_past.fr (by decide) f6), (c3.j_ways.fr (by decide) f6), (c3.j_known.fr (by decide) f6)⟩
      have jp : j_plan M6 := by
        refine ⟨?_, ?_, fun _ t ht => ?_⟩
        · rw [f6 103 7 rfl, fT 103 7 rfl, ← hX, g4 107 53 (by decide), z_up_s]; rfl
        · rw [g4 107 53 (by decide), z_up_s]; rfl
        · have htk : t < tk M := by
            have : tk M6 = tk M := by unfold tk; rw [f6 109 1 rfl, c4 109 1 rfl]
            rw [this] at ht; exact ht
          rw [f6 106 t rfl, fT 106 t rfl, g2 t (by omega) (by omega), show z_up M5 107 53 (1 : Int32) 141 t = M5 141 t from rfl]
          have : X 106 t = M4 106 t := by rw [← hX]; rfl
          rw [this, p3 t htk]
          exact FT_uniq _ _ _ _ _ _ hFT hFT2 t (by omega) (by omega)
      have z7 : z_I k M6 := ⟨z6.j_tape, z6.j_fault, z6.j_cnt, z6.j_town, z6.j_train, z6.j_thing, z6.j_play, z6.j_like, z6.j_day, z6.j_seed, z6.j_place, z6.j_night, z6.j_stat, jp, z6.j_st1, z6.j_st2, z6.j_img, z6.j_past, z6.j_ways, z6.j_known⟩
      exact z7.up
theorem e_sparedq {k : Nat} {M0 : zMM} (hk : k < 600) (hI : z_I k M0) {a1 : Int32} :
    ∀ r t, t + r = tk M0 → ∀ fu gu Mc Mm x2 x3, r < fu → r < gu → z_fr w_sk M0 Mc → FTB M0 Mc → CTB M0 Mc (ni M0) → z_I k Mm → z_fr w_sk M0 Mm → Mc 103 8 = x2 → Mc 103 9 = x3 → ((x2 = -1 ∧ x3 = -1) ∨ (x2 ≠ -1 ∧ x3 ≠ -1)) → ∃ Mc' Mm', f_X1_findSpared_103_p20 fu (nI t) Mc = some Mc' ∧ f_X8_spared_107_p27 gu a1 x2 x3 (nI t) Mm = some (if a1 = 0 then Mc' 103 8 else Mc' 103 9, Mm') ∧ z_fr ([(103, 8), (103, 9)], []) Mc Mc' ∧ z_I k Mm' ∧ Mm' 107 1 = Mm 107 1 := by
  have h5 := tk_le hI.j_cnt
  have hKm : ∀ M, z_fr w_sk M0 M → M 109 1 = nI (tk M0) := by
    intro M hf
    rw [hf 109 1 rfl]
    obtain ⟨N, -, hN, hNc, -⟩ := hI.j_cnt.2.2.2.2.2.2.1.nI
    unfold tk
    rw [hNc]; exact hN
  intro r
  induction r with
  | zero =>
    intro t ht fu gu Mc Mm x2 x3 hfu hgu hfc hF hC hIm hfm e2 e3 hx
    obtain ⟨fu, rfl⟩ : ∃ m, fu = m + 1 := ⟨fu - 1, by omega⟩
    obtain ⟨gu, rfl⟩ : ∃ m, gu = m + 1 := ⟨gu - 1, by omega⟩
    unfold f_X1_findSpared_103_p20 f_X8_spared_107_p27
    rw [hKq hI hfc, if_pos (nI_le (by omega) (by omega)), hKm Mm hfm, if_pos (nI_le (by omega) (by omega))]
    refine ⟨Mc, Mm, rfl, ?_, z_fr.refl, hIm, rfl⟩
    by_cases h : a1 = 0
    · rw [if_pos h, if_pos h, e2]
    · rw [if_neg h, if_neg h, e3]
  | succ r ih =>
    intro t ht fu gu Mc Mm x2 x3 hfu hgu hfc hF hC hIm hfm e2 e3 hx
    obtain ⟨fu, rfl⟩ : ∃ m, fu = m + 1 := ⟨fu - 1, by omega⟩
    obtain ⟨gu, rfl⟩ : ∃ m, gu = m + 1 := ⟨gu - 1, by omega⟩
    have hw : ∀ u, u < 5 → (nI u = nI t ↔ u = t) := fun u hu => nI_eq (by omega) (by omega)
    obtain ⟨y, b1, b2⟩ := e_leastFrom hk hI (z_fr.refl.sub hfc (by decide)) hF hC (w := t) (xw := nI t) hw (tk M0) 0 (by omega) 8 (by omega) (fun _ => 0) 0 AB_0 (fun u hu => absurd hu (by omega))
    have b3 := TS_ls hI (K := tk M0) (by omega) b2
    obtain ⟨y', M3, c1, c2, c3, c4, c5, -⟩ := e_tw hk hI hIm hfm (w := t) (xw := nI t) hw
    have hyy : y' = y := c2.inj b3
    rw [hyy] at c1
    unfold f_X1_findSpared_103_p20 f_X8_spared_107_p27
    rw [hKq hI hfc, if_neg (nI_ge (by omega) (by omega)), show f_X1_leastFrom_103 8 (0 : Int32) (0 : Int32) (nI t) Mc = _ from b1, z_bi_s, hKm Mm hfm, if_neg (nI_ge (by omega) (by omega)), c1, z_bi_s, nI_1, e3]
    have upd : zl y x3 → ∃ Mc' Mm', f_X1_findSpared_103_p20 fu (nI (t + 1)) (z_up (z_up Mc 103 9 y) 103 8 (nI t)) = some Mc' ∧ f_X8_spared_107_p27 gu a1 (nI t) y (nI (t + 1)) M3 = some (if a1 = 0 then Mc' 103 8 else Mc' 103 9, Mm') ∧ z_fr ([(103, 8), (103, 9)], []) Mc Mc' ∧ z_I k Mm' ∧ Mm' 107 1 = Mm 107 1 := by
      intro hz
      obtain ⟨Mc', Mm', r1, r2, r3, r4, r5⟩ := ih (t + 1) (by omega) fu gu (z_up (z_up Mc 103 9 y) 103 8 (nI t)) M3 (nI t) y (by omega) (by omega) ((hfc.up rfl).up rfl) hF hC c3 c4 z_up_s (by rw [z_up_n (by decide), z_up_s]) (Or.inr ⟨nI_m1 (by omega), hz.1⟩)
      exact ⟨Mc', Mm', r1, r2, ((z_fr.refl.up rfl).up rfl).trans r3, r4, r5.trans c5⟩
    have kp : ∃ Mc' Mm', f_X1_findSpared_103_p20 fu (nI (t + 1)) Mc = some Mc' ∧ f_X8_spared_107_p27 gu a1 x2 x3 (nI (t + 1)) M3 = some (if a1 = 0 then Mc' 103 8 else Mc' 103 9, Mm') ∧ z_fr ([(103, 8), (103, 9)], []) Mc Mc' ∧ z_I k Mm' ∧ Mm' 107 1 = Mm 107 1 := by
      obtain ⟨Mc', Mm', r1, r2, r3, r4, r5⟩ := ih (t + 1) (by omega) fu gu Mc M3 x2 x3 (by omega) (by omega) hfc hF hC c3 c4 e2 e3 hx
      exact ⟨Mc', Mm', r1, r2, r3, r4, r5.trans c5⟩
    rcases e_less (y := y) (x := x3) (M := Mc) with ⟨hz, e⟩ | ⟨hz, e⟩
    · rw [e, z_bi_s, if_neg (by decide), if_neg hz.1]
      rcases hx with ⟨q1, q2⟩ | ⟨q1, q2⟩
      · rw [if_pos q1]; exact upd hz
      · rw [if_neg q1, if_pos (hz.2.resolve_left q2)]; exact upd hz
    · rw [e, z_bi_s, if_pos rfl]
      by_cases hy1 : y = -1
      · rw [if_pos hy1]; exact kp
      · rw [if_neg hy1]
        rcases hx with ⟨q1, q2⟩ | ⟨q1, q2⟩
        · exact absurd ⟨hy1, Or.inl q2⟩ hz
        · rw [if_neg q1, if_neg (fun z => hz ⟨hy1, Or.inr z⟩)]; exact kp
theorem B_spared : z_op_spared := by
  intro k M a1 hk hI
  have h5 := tk_le hI.j_cnt
  have eM : ∀ M1 r, (if (¬ a1 < 0 ∧ a1 ≤ 1) then f_X8_spared_107_p27 z_fuel a1 (-1 : Int32) (-1 : Int32) (0 : Int32) (z_up M1 107 1 (0 : Int32)) else some ((0 : Int32), z_up (z_up M1 107 1 (0 : Int32)) 107 1 (1 : Int32))) = r → f_X8_spared_107 a1 M1 = r := by
    intro M1 r hr
    unfold f_X8_spared_107
    rw [← hr]
    by_cases g : a1 < 0
    · rw [if_pos g, if_neg (fun z => z.1 g)]; rfl
    · by_cases g' : a1 ≤ 1
      · rw [if_neg g, if_pos g', if_pos ⟨g, g'⟩]
      · rw [if_neg g, if_neg g', if_neg (fun z => g' z.2)]; rfl
  rcases e_pair (a := a1) (M := M) with ⟨g, e⟩ | ⟨g, e⟩
  · obtain ⟨M2, a1', a2, a3, a4, a5⟩ := e_head7 hk hI
    obtain ⟨Mf, c1, c2⟩ := z_bv_c a1'
    have fr0 : z_fr w_sc M2 (z_up (z_up M2 103 8 (-1 : Int32)) 103 9 (-1 : Int32)) := (z_fr.refl.up rfl).up rfl
    have hI3 := a2.sc fr0
    have fr3 : z_fr w_sk M (z_up (z_up M2 103 8 (-1 : Int32)) 103 9 (-1 : Int32)) := a3.trans (sc_sk fr0)
    have key := fun Mm (hIm : z_I k Mm) (hfm : z_fr w_sk M Mm) => e_sparedq hk hI (a1 := a1) (tk M) 0 (by omega) z_fuel z_fuel (z_up (z_up M2 103 8 (-1 : Int32)) 103 9 (-1 : Int32)) Mm (-1) (-1) (by unfold z_fuel; omega) (by unfold z_fuel; omega) fr3 a4 a5 hIm hfm rfl rfl (Or.inl ⟨rfl, rfl⟩)
    obtain ⟨Mc, -, r1, -, r3, -⟩ := key M hI z_fr.refl
    have fr4 : z_fr w_sc (z_up (z_up M2 103 8 (-1 : Int32)) 103 9 (-1 : Int32)) Mc := z_fr.refl.sub r3 (by decide)
    have hIc : z_I k Mc := hI3.sc fr4
    obtain ⟨Mc', Mm', s1, s2, s3, s4, s5⟩ := key (z_up Mc 107 1 (0 : Int32)) (hIc.sc w1_sc) ((fr3.trans (sc_sk fr4)).up rfl)
    have hcc : Mc = Mc' := by
      have r1' := r1
      rw [s1] at r1'
      injection r1' with z
      exact z.symm
    rw [← hcc] at s2
    refine ⟨.inl (if a1 = 0 then Mc 103 8 else Mc 103 9), Mc, _, Mm', ?_, eM Mc _ ((if_pos (pair_mq.mp g)).trans s2), ⟨?_, rfl⟩, s4.up⟩
    · unfold f_X7_spared_51 f_X1_findSpared_103 f_X1_sparedTrunk_103 f_X1_sparedPrice_103
      rw [e, z_bt_l, c1, z_bv_s, c2, z_bv_s, show f_X1_findSpared_103_p20 z_fuel (0 : Int32) (z_up (z_up M2 103 8 (-1 : Int32)) 103 9 (-1 : Int32)) = _ from r1, z_bv_s]
      by_cases h : a1 = 0
      · rw [if_pos h, if_pos h]; rfl
      · rw [if_neg h, if_neg h]; rfl
    · show Mm' 107 1 = 0
      rw [s5]; exact z_up_s
  · refine ⟨.inr 0, M, 0, z_up (z_up M 107 1 (0 : Int32)) 107 1 (1 : Int32), ?_, eM M _ (if_neg (fun z => g (pair_mq.mpr z))), ⟨1, rfl, rfl, by decide⟩, hI.code ((z_fr.refl.up rfl).up rfl)⟩
    unfold f_X7_spared_51
    rw [e, z_bt_r]
