/-! ===== undo ===== -/
theorem e_p68 {w : Nat} (hw : w < 100) : ∀ (k t : Nat), t + k = 5 → ∀ (fu : Nat) (M : zMM), k < fu → ∃ M', f_X0_bringBack_101_87_p68 fu (nI (13 * w)) (nI t) M = some ((1 : Int32), M') ∧ (∀ x, t ≤ x → x < 5 → M' 88 x = M 102 (13 * w + (3 + 2 * x)) ∧ M' 89 x = M 102 (13 * w + (4 + 2 * x))) ∧ (∀ x, x < t → M' 88 x = M 88 x ∧ M' 89 x = M 89 x) ∧ M' 101 1 = (if M 101 1 ≤ 0 then (99 : Int32) else M 101 1 - 1) ∧ M' 101 2 = M 101 2 - 1 ∧ ∀ a b, a ≠ 88 → a ≠ 89 → a ≠ 101 → M' a b = M a b := by
  intro k
  induction k with
  | zero =>
    intro t ht fu M hk
    obtain ⟨fu, rfl⟩ : ∃ m, fu = m + 1 := ⟨fu - 1, by omega⟩
    unfold f_X0_bringBack_101_87_p68
    rw [if_pos (show (5 : Int32) ≤ nI t from nI_le (a := 5) (by omega) (by omega))]
    by_cases h : M 101 1 ≤ 0
    · rw [if_pos h, if_pos h]
      exact ⟨_, rfl, fun x h1 h2 => by omega, fun x _ => ⟨rfl, rfl⟩, rfl, rfl, fun a b _ _ h3 => (z_up_o h3).trans (z_up_o h3)⟩
    · rw [if_neg h, if_neg h]
      exact ⟨_, rfl, fun x h1 h2 => by omega, fun x _ => ⟨rfl, rfl⟩, rfl, rfl, fun a b _ _ h3 => (z_up_o h3).trans (z_up_o h3)⟩
  | succ k ih =>
    intro t ht fu M hk
    obtain ⟨fu, rfl⟩ : ∃ m, fu = m + 1 := ⟨fu - 1, by omega⟩
    unfold f_X0_bringBack_101_87_p68 f_X4_place_87
    rw [if_neg (show ¬ (5 : Int32) ≤ nI t from nI_ge (b := 5) (by omega) (by decide)), show (2 : Int32) * nI t = nI (2 * t) from nI_mul 2 t, show nI (13 * w) + (3 : Int32) = nI (13 * w + 3) from nI_add _ 3, show nI (13 * w) + (4 : Int32) = nI (13 * w + 4) from nI_add _ 4, nI_add, nI_add, z_at_nI (by decide) (by omega), z_at_nI (by decide) (by omega), z_pt_nI (by decide) (by omega), z_bv_s, z_pt_nI (by decide) (by omega), z_bv_s, z_bv_s, nI_1]
    obtain ⟨M', e1, e2, e3, e4, e5, e6⟩ := ih (t + 1) (by omega) fu (z_up (z_up M 88 t (M 102 (13 * w + 3 + 2 * t))) 89 t (M 102 (13 * w + 4 + 2 * t))) (by omega)
    refine ⟨M', e1, fun x h1 h2 => ?_, fun x h1 => ?_, e4, e5, fun a b h1 h2 h3 => ?_⟩
    · by_cases hx : x = t
      · obtain ⟨g1, g2⟩ := e3 x (by omega)
        rw [g1, g2, hx, z_up_o (by decide), z_up_s, z_up_s, Nat.add_assoc, Nat.add_assoc]
        exact ⟨rfl, rfl⟩
      · exact e2 x (by omega) h2
    · obtain ⟨g1, g2⟩ := e3 x (by omega)
      rw [g1, g2, z_up_o (by decide), z_up_n (by omega), z_up_n (by omega), z_up_o (by decide)]
      exact ⟨rfl, rfl⟩
    · rw [e6 a b h1 h2 h3, z_up_o h2, z_up_o h1]
theorem B_c14 : z_Cs f_L_c14 := by
  intro k K Ls j M Lm hk hL hj hI
  obtain ⟨w, wl, hw, -, hw9⟩ := hI.j_past.2.2.1.nI
  obtain ⟨u, ul, hu, hu2, hu9⟩ := hI.j_past.2.1.nI
  have hs : M 101 2 = nI u := hI.j_past.1.trans hu
  have eun : un M = u := hu2
  by_cases h0 : u = 0
  · refine ⟨z_up M 107 1 (0 : Int32), Lm, ?_, hI.code (z_fr.refl.up rfl)⟩
    unfold f_L_c14
    have e1 : f_X7_undo_51 M = some ((0 : Int32), M) := by
      unfold f_X7_undo_51 f_X0_bringBack_101_87
      rw [hs, h0, if_neg (by decide)]
      rfl
    have e2 : f_X8_undo_107 M = some ((0 : Int32), z_up M 107 1 (0 : Int32)) := by
      unfold f_X8_undo_107
      rw [hu, h0, if_pos (show nI 0 = (0 : Int32) from rfl)]
    rw [e1, z_bi_s, e2, z_bi_s, if_pos rfl]
  obtain ⟨p1, p2, p3, p4⟩ := hI.j_past
  have old := p4 0 (by omega)
  rw [eun, Nat.sub_zero] at old
  have hrow : ∀ i c, rw_ M i c = M 102 (13 * ((w + 100 - i) % 100) + c) := fun i c => by unfold rw_; rw [hw, nI_clamp (by omega)]
  have hr0 : ∀ c, rw_ M 0 c = M 102 (13 * w + c) := fun c => by
    rw [hrow, show (w + 100 - 0) % 100 = w by omega]
  obtain ⟨q1, q2, q3, q4, q5, q6, q7, q8⟩ := old
  -- the class
  obtain ⟨b, hb1, hb2⟩ : ∃ b : Int32, (if M 102 (13 * w + 1) = (1 : Int32) then (1 : Int32) else 0) = b ∧ b = M 135 (u - 1) := by
    refine ⟨_, rfl, ?_⟩
    have e := q3
    rw [hr0] at e
    rw [e]
    simp only [z_zb, Bool.or_eq_true, decide_eq_true_eq] at q4
    rcases q4 with z | z <;> rw [z] <;> rfl
  have hbz : z_zb b = true := by rw [hb2]; exact q4
  obtain ⟨Mc, e1, e2, -, e4, e5, e6⟩ := e_p68 (w := w) (by omega) 5 0 rfl z_fuel (z_up (z_up (z_up M 87 2 (M 102 (13 * w))) 87 3 b) 87 4 (M 102 (13 * w + 2))) (by decide)
  have eC : f_X7_undo_51 M = some ((1 : Int32), Mc) := by
    have e49 : f_X0_bringBack_101_87_p49 (nI (13 * w)) b (z_up M 87 2 (M 102 (13 * w))) = some ((1 : Int32), Mc) := by
      unfold f_X0_bringBack_101_87_p49
      rw [if_pos hbz, show nI (13 * w) + (2 : Int32) = nI (13 * w + 2) from nI_add _ 2, z_at_nI (by decide) (by omega)]
      exact e1
    unfold f_X7_undo_51 f_X0_bringBack_101_87
    rw [hs, if_pos (show (0 : Int32) < nI u from nI_lt (a := 0) (by omega) (by omega)), hw, show nI w * (13 : Int32) = nI (13 * w) by rw [Nat.mul_comm]; exact nI_mul w 13, show nI (13 * w) + (1 : Int32) = nI (13 * w + 1) from nI_add _ 1, z_at_nI (by decide) (by omega), z_at_nI (by decide) (by omega)]
    by_cases hz : M 102 (13 * w + 1) = (1 : Int32)
    · rw [if_pos hz]
      rw [if_pos hz] at hb1
      rw [← hb1] at e49
      rw [e49]; rfl
    · rw [if_neg hz]
      rw [if_neg hz] at hb1
      rw [← hb1] at e49
      rw [e49]; rfl
  have fC := R_X7_undo_51 eC
  -- the model
  have um : nI u - (1 : Int32) = nI (u - 1) := by
    obtain ⟨v, hv⟩ : ∃ v, u = v + 1 := ⟨u - 1, by omega⟩
    rw [hv, nI_pred, Nat.add_sub_cancel]
  have ib : z_ib (nI (u - 1)) 100 = true := z_ib_n (by decide) (by omega)
  have g31 : Mc 107 31 = nI u := (fC 107 31 rfl).trans hu
  have h69 : ∀ X : zMM, X 107 31 = nI (u - 1) → (∀ c, 130 ≤ c ∧ c ≤ 135 → ∀ b, X c b = M c b) → f_X8_undo_107_p69 X = some ((1 : Int32), z_up (z_up (z_up X 107 29 (M 133 (u - 1))) 107 30 (M 134 (u - 1))) 107 33 (M 135 (u - 1))) := by
    intro X h1 h2
    unfold f_X8_undo_107_p69
    rw [h1, if_pos ib, if_pos ib, if_pos ib, nI_clamp (by omega), h2 135 (by decide), if_pos q4, h2 133 (by decide), h2 134 (by decide)]
  have gC : ∀ c, 130 ≤ c ∧ c ≤ 135 → ∀ b, Mc c b = M c b := by
    intro c hc b
    have : c = 130 ∨ c = 131 ∨ c = 132 ∨ c = 133 ∨ c = 134 ∨ c = 135 := by omega
    rcases this with rfl | rfl | rfl | rfl | rfl | rfl
    all_goals exact fC _ b rfl
  obtain ⟨Y, eM, hY29, hY30, hY33, hY31, hY1, hYp, hYf⟩ : ∃ Y : zMM, f_X8_undo_107 Mc = some ((1 : Int32), Y) ∧ Y 107 29 = M 133 (u - 1) ∧ Y 107 30 = M 134 (u - 1) ∧ Y 107 33 = M 135 (u - 1) ∧ Y 107 31 = nI (u - 1) ∧ Y 107 1 = 0 ∧ (∀ t, t < tk M → rw_ M 0 (3 + 2 * t) = Y 124 t ∧ rw_ M 0 (4 + 2 * t) = Y 125 t) ∧ z_fr ([(107, 1), (107, 29), (107, 30), (107, 31), (107, 33)], [124, 125]) Mc Y := by
    have hk5 := tk_le hI.j_cnt
    rcases q8 with ⟨y1, y2⟩ | ⟨t0, y1, y2, y3, y4, y5⟩
    · refine ⟨_, ?_, rfl, rfl, rfl, rfl, rfl, fun t ht => ?_, (((((z_fr.refl.up (r := 107) (i := 1) rfl).up (r := 107) (i := 31) rfl).up (r := 107) (i := 29) rfl).up (r := 107) (i := 30) rfl).up (r := 107) (i := 33) rfl)⟩
      · unfold f_X8_undo_107
        rw [g31, if_neg (show ¬ nI u = 0 from nI_ne0 (by omega) (by omega)), um, if_pos ib, nI_clamp (by omega), gC 130 (by decide), y1, if_pos rfl]
        exact h69 _ rfl (fun c hc b => by rw [z_up_o (by omega), z_up_o (by omega)]; exact gC c hc b)
      · obtain ⟨l1, l2, l3, l4, l5⟩ := hI.j_place.1 t ht
        obtain ⟨z1, z2⟩ := y2 t (by omega)
        show _ = Mc 124 t ∧ _ = Mc 125 t
        rw [z1, z2, fC 124 t rfl, fC 125 t rfl, ← l1, ← l4]
        exact ⟨rfl, rfl⟩
    · have hne : ¬ nI t0 = -1 := nI_m1 (by omega)
      have ib5 : z_ib (nI t0) 5 = true := z_ib_n (by decide) (by omega)
      refine ⟨_, ?_, rfl, rfl, rfl, rfl, rfl, fun t ht => ?_, ((((((z_fr.refl.up (r := 107) (i := 1) rfl).up (r := 107) (i := 31) rfl).up (r := 124) (i := t0) (v := M 131 (u - 1)) rfl).up (r := 125) (i := t0) (v := M 132 (u - 1)) rfl).up (r := 107) (i := 29) rfl).up (r := 107) (i := 30) rfl).up (r := 107) (i := 33) rfl⟩
      · unfold f_X8_undo_107
        rw [g31, if_neg (show ¬ nI u = 0 from nI_ne0 (by omega) (by omega)), um, if_pos ib, nI_clamp (by omega), gC 130 (by decide), y2, if_neg hne, if_pos ib, if_pos ib5, if_pos ib, if_pos ib5, nI_clamp (by omega), gC 131 (by decide), gC 132 (by decide)]
        exact h69 _ rfl (fun c hc b => by rw [z_up_o (by omega), z_up_o (by omega), z_up_o (by omega), z_up_o (by omega)]; exact gC c hc b)
      · obtain ⟨l1, l2, l3, l4, l5⟩ := hI.j_place.1 t ht
        show _ = (if t = t0 then M 131 (u - 1) else Mc 124 t) ∧ _ = (if t = t0 then M 132 (u - 1) else Mc 125 t)
        by_cases htt : t = t0
        · rw [if_pos htt, if_pos htt, htt]; exact ⟨y3, y4⟩
        · obtain ⟨z1, z2⟩ := y5 t (by omega) htt
          rw [if_neg htt, if_neg htt, z1, z2, fC 124 t rfl, fC 125 t rfl, ← l1, ← l4]
          exact ⟨rfl, rfl⟩
  refine ⟨Y, Lm, by unfold f_L_c14; rw [eC, z_bi_s, eM, z_bi_s, if_pos rfl], ?_⟩
  have hf : z_fr ([(87, 2), (87, 3), (87, 4), (101, 1), (101, 2), (107, 1), (107, 29), (107, 30), (107, 31), (107, 33)], [88, 89, 124, 125]) M Y := (z_fr.refl.sub fC (by decide)).sub hYf (by decide)
  have hk5 := tk_le hI.j_cnt
  have d2 : Y 87 2 = M 133 (u - 1) := by
    rw [hYf 87 2 rfl, e6 87 2 (by decide) (by decide) (by decide), ← q1, hr0]; rfl
  have d3 : Y 87 3 = M 135 (u - 1) := by
    rw [hYf 87 3 rfl, e6 87 3 (by decide) (by decide) (by decide), ← hb2]; rfl
  have d4 : Y 87 4 = rw_ M 0 2 := by
    rw [hYf 87 4 rfl, e6 87 4 (by decide) (by decide) (by decide), hr0]; rfl
  have d88 : ∀ t, t < 5 → Y 88 t = rw_ M 0 (3 + 2 * t) ∧ Y 89 t = rw_ M 0 (4 + 2 * t) := by
    intro t ht
    obtain ⟨z1, z2⟩ := e2 t (by omega) ht
    rw [hYf 88 t rfl, hYf 89 t rfl, z1, z2, hr0, hr0]
    exact ⟨rfl, rfl⟩
  have d101 : Y 101 1 = nI ((w + 99) % 100) := by
    rw [hYf 101 1 rfl, e4]
    show (if M 101 1 ≤ 0 then (99 : Int32) else M 101 1 - 1) = _
    rw [hw]
    by_cases hw0 : w = 0
    · rw [hw0]; rfl
    · rw [if_neg (nI_nle (by omega) (by omega))]
      obtain ⟨v, hv⟩ : ∃ v, w = v + 1 := ⟨w - 1, by omega⟩
      rw [hv, nI_pred, show (v + 1 + 99) % 100 = v by omega]
  have d102 : Y 101 2 = nI (u - 1) := by
    rw [hYf 101 2 rfl, e5]
    show M 101 2 - 1 = _
    rw [hs, um]
  have eunY : un Y = u - 1 := by unfold un; rw [hY31, nI_clamp (by omega)]
  have etk : tk Y = tk M := by unfold tk; rw [hf 109 1 rfl]
  have etw : tw Y = tw M := by unfold tw; rw [hf 109 0 rfl]
  have hrY : ∀ i c, i < 99 → rw_ Y i c = rw_ M (i + 1) c := by
    intro i c hi
    rw [hrow]
    unfold rw_
    rw [d101, nI_clamp (by omega), hf 102 _ rfl, show ((w + 99) % 100 + 100 - i) % 100 = (w + 100 - (i + 1)) % 100 by omega]
  have jd : j_day k Y := ⟨d2.trans hY29.symm, by rw [hY29]; exact q2⟩
  have js : j_seed Y := ⟨d3.trans hY33.symm, by rw [hY33]; exact q4, fun h => by rw [d4, hY30]; rw [hY33] at h; exact q5 h⟩
  have jp : j_place k Y := by
    refine ⟨fun t ht => ?_, fun t ht ht5 => ?_⟩
    · rw [etk] at ht
      obtain ⟨z1, z2⟩ := hYp t ht
      obtain ⟨x1, x2⟩ := d88 t (by omega)
      obtain ⟨y1, y2, y3⟩ := q6 t ht
      rw [x1, x2, ← z1, ← z2, etw]
      exact ⟨rfl, y1, y2, rfl, y3⟩
    · rw [etk] at ht
      rw [(d88 t ht5).1]; exact q7 t ht ht5
  have ja : j_past k Y := by
    refine ⟨d102.trans hY31.symm, ⟨by rw [hY31, nI_toInt (by omega)]; omega, by rw [hY31, nI_toInt (by omega)]; omega⟩, ⟨by rw [d101, nI_toInt (by omega)]; omega, by rw [d101, nI_toInt (by omega)]; omega⟩, fun i hi => ?_⟩
    rw [eunY] at hi ⊢
    have o' := p4 (i + 1) (by omega)
    rw [eun] at o'
    have hi9 : i < 99 := by omega
    have hpv : ∀ t, t < 5 → pv_ Y i t = pv_ M (i + 1) t ∧ pc_ Y i t = pc_ M (i + 1) t := by
      intro t ht
      cases i with
      | zero => exact d88 t ht
      | succ i =>
        show rw_ Y i (3 + 2 * t) = rw_ M (i + 1) (3 + 2 * t) ∧ rw_ Y i (4 + 2 * t) = rw_ M (i + 1) (4 + 2 * t)
        exact ⟨hrY i _ (by omega), hrY i _ (by omega)⟩
    rw [show u - 1 - 1 - i = u - 1 - (i + 1) by omega, etk, etw, hf 130 _ rfl, hf 131 _ rfl, hf 132 _ rfl, hf 133 _ rfl, hf 134 _ rfl, hf 135 _ rfl]
    obtain ⟨r1, r2, r3, r4, r5, r6, r7, r8⟩ := o'
    refine ⟨by rw [hrY i 0 hi9]; exact r1, r2, by rw [hrY i 1 hi9]; exact r3, r4, fun h => by rw [hrY i 2 hi9]; exact r5 h, fun t ht => ?_, fun t ht ht5 => ?_, ?_⟩
    · rw [hrY i _ hi9, hrY i _ hi9]; exact r6 t ht
    · rw [hrY i _ hi9]; exact r7 t ht ht5
    · rcases r8 with ⟨y1, y2⟩ | ⟨t0, y1, y2, y3, y4, y5⟩
      · refine Or.inl ⟨y1, fun t ht => ?_⟩
        rw [hrY i _ hi9, hrY i _ hi9, (hpv t ht).1, (hpv t ht).2]; exact y2 t ht
      · refine Or.inr ⟨t0, y1, y2, by rw [hrY i _ hi9]; exact y3, by rw [hrY i _ hi9]; exact y4, fun t ht htn => ?_⟩
        rw [hrY i _ hi9, hrY i _ hi9, (hpv t ht).1, (hpv t ht).2]; exact y5 t ht htn
  exact ⟨(hI.j_tape.fr (by decide) hf), (hI.j_fault.fr (by decide) hf), (hI.j_cnt.fr (by decide) hf), (hI.j_town.fr (by decide) hf), (hI.j_train.fr (by decide) hf), (hI.j_thing.fr (by decide) hf), (hI.j_play.fr (by decide) hf), (hI.j_like.fr (by decide) hf), jd.mono, js, jp.mono, (hI.j_night.fr (by decide) hf), (hI.j_stat.fr (by decide) hf), (hI.j_plan.fr (by decide) hf), (hI.j_st1.fr (by decide) hf), (hI.j_st2.fr (by decide) hf), (hI.j_img.fr (by decide) hf).mono, ja.mono, (hI.j_ways.fr (by decide) hf), (hI.j_known.fr (by decide) hf)⟩
