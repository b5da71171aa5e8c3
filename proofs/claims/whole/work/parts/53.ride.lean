/-! ===== send ===== -/
theorem e_trainJ {M : zMM} (hIc : j_cnt M) (hIt : j_train M) {a b : Nat} (ha : a < 5) (hb : b < 5) : (M 58 (5 * a + b) = -1 ∧ M 114 (5 * a + b) = 0 ∧ tr M a b = 0) ∨ (M 58 (5 * a + b) = nI (tr M a b) ∧ M 114 (5 * a + b) = nI (tr M a b) ∧ 1 ≤ tr M a b ∧ tr M a b ≤ 9 ∧ a < tw M ∧ b < tw M ∧ a ≠ b) := by
  rcases hIt (5 * a + b) (by omega) with ⟨h1, h2⟩ | ⟨h1, h2, h3, h4, h5⟩
  · exact Or.inl ⟨h1, h2, by unfold tr; rw [h2]; rfl⟩
  · obtain ⟨v, hv, e1, e2, e3⟩ := (show z_bd (M 114 (5 * a + b)) 0 9 from ⟨by have := h2.1; omega, h2.2⟩).nI
    have e : tr M a b = v := e2
    have := h2.1
    rw [e1, nI_toInt hv] at this
    rw [e, h1]
    exact Or.inr ⟨e1, e1, by omega, by omega, by omega, by omega, by omega⟩
theorem e_else7J {M : zMM} (hIc : j_cnt M) (hIt : j_train M) {a x : Nat} (ha : a < tw M) (hx : x < 5) : ∃ r, f_X6_elsewhere_80 (nI a) (nI x) M = some (r, M) ∧ spq M a x r := by
  have h5 := tw_le hIc
  obtain ⟨N, -, hN, hNc, hN5⟩ := hIc.2.2.2.2.2.1.nI
  have eN : tw M = N := hNc
  have loop : ∀ r y, y + r = N → ∀ fu, r < fu → (∀ z, z < y → ¬ (z ≠ x ∧ 0 < tr M a z)) → ∃ r, f_X6_elsewhere_80_p2 fu (nI a) (nI x) (nI y) M = some (r, M) ∧ spq M a x r := by
    intro r
    induction r with
    | zero =>
      intro y hy fu hfu hno
      obtain ⟨fu, rfl⟩ : ∃ m, fu = m + 1 := ⟨fu - 1, by omega⟩
      unfold f_X6_elsewhere_80_p2
      rw [hIc.1, hN, if_pos (nI_le (by omega) (by omega))]
      refine ⟨-1, rfl, Or.inl ⟨rfl, fun z hz q => ?_⟩⟩
      by_cases hzy : z < y
      · exact hno z hzy q
      · rcases e_trainJ hIc hIt (a := a) (b := z) (by omega) hz with ⟨-, -, w⟩ | ⟨-, -, -, -, -, w, -⟩
        · omega
        · omega
    | succ r ih =>
      intro y hy fu hfu hno
      obtain ⟨fu, rfl⟩ : ∃ m, fu = m + 1 := ⟨fu - 1, by omega⟩
      unfold f_X6_elsewhere_80_p2
      rw [hIc.1, hN, if_neg (nI_ge (by omega) (by omega)), nI_1]
      have next : ¬ (y ≠ x ∧ 0 < tr M a y) → ∃ r, f_X6_elsewhere_80_p2 fu (nI a) (nI x) (nI (y + 1)) M = some (r, M) ∧ spq M a x r := by
        intro hn
        refine ih (y + 1) (by omega) fu (by omega) (fun z hz => ?_)
        by_cases hzy : z = y
        · rw [hzy]; exact hn
        · exact hno z (by omega)
      by_cases hyx : y = x
      · rw [if_pos (by rw [hyx])]
        exact next (fun q => q.1 hyx)
      · rw [if_neg (fun q => hyx ((nI_eq (by omega) (by omega)).mp q)), e_tD (by omega) (by omega), z_bi_s]
        rcases e_trainJ hIc hIt (a := a) (b := y) (by omega) (by omega) with ⟨z, -, w⟩ | ⟨z, -, w, -⟩
        · rw [z, if_pos rfl]
          exact next (fun q => by omega)
        · rw [z, if_neg (nI_m1 (by
            rcases e_trainJ hIc hIt (a := a) (b := y) (by omega) (by omega) with ⟨-, -, w⟩ | ⟨-, -, -, w, -⟩ <;> omega))]
          exact ⟨nI y, rfl, Or.inr ⟨y, by omega, rfl, ⟨hyx, by omega⟩, hno⟩⟩
  exact loop N 0 (by omega) z_fuel (by unfold z_fuel; omega) (fun z hz => absurd hz (by omega))
theorem e_else8J {M : zMM} (hIc : j_cnt M) (hIt : j_train M) {a x : Nat} (ha : a < 5) (hx : x < 5) : ∃ r, f_X8_elsewhere_107 (nI a) (nI x) M = some (r, M) ∧ spq M a x r := by
  have loop : ∀ r y, y + r = 5 → ∀ fu, r < fu → (∀ z, z < y → ¬ (z ≠ x ∧ 0 < tr M a z)) → ∃ r, f_X8_elsewhere_107_p2 fu (nI a) (nI x) (nI y) M = some (r, M) ∧ spq M a x r := by
    intro r
    induction r with
    | zero =>
      intro y hy fu hfu hno
      obtain ⟨fu, rfl⟩ : ∃ m, fu = m + 1 := ⟨fu - 1, by omega⟩
      unfold f_X8_elsewhere_107_p2
      rw [if_pos (show (5 : Int32) ≤ nI y from nI_le (a := 5) (by omega) (by omega))]
      exact ⟨-1, rfl, Or.inl ⟨rfl, fun z hz => hno z (by omega)⟩⟩
    | succ r ih =>
      intro y hy fu hfu hno
      obtain ⟨fu, rfl⟩ : ∃ m, fu = m + 1 := ⟨fu - 1, by omega⟩
      unfold f_X8_elsewhere_107_p2
      rw [if_neg (show ¬ (5 : Int32) ≤ nI y from nI_ge (b := 5) (by omega) (by decide)), nI_1]
      have next : ¬ (y ≠ x ∧ 0 < tr M a y) → ∃ r, f_X8_elsewhere_107_p2 fu (nI a) (nI x) (nI (y + 1)) M = some (r, M) ∧ spq M a x r := by
        intro hn
        refine ih (y + 1) (by omega) fu (by omega) (fun z hz => ?_)
        by_cases hzy : z = y
        · rw [hzy]; exact hn
        · exact hno z (by omega)
      by_cases hyx : y = x
      · rw [if_pos (by rw [hyx])]
        exact next (fun q => q.1 hyx)
      · rw [if_neg (fun q => hyx ((nI_eq (by omega) (by omega)).mp q)), nI_15, if_pos (z_ib_n (by decide) (by omega)), nI_clamp (by omega)]
        rcases e_trainJ hIc hIt (a := a) (b := y) (by omega) (by omega) with ⟨-, z, w⟩ | ⟨-, z, w, w2, -⟩
        · rw [z, if_pos (by decide)]
          exact next (fun q => by omega)
        · rw [z, if_neg (nI_nle (by omega) (by omega))]
          exact ⟨nI y, rfl, Or.inr ⟨y, by omega, rfl, ⟨hyx, by omega⟩, hno⟩⟩
  exact loop 5 0 (by omega) z_fuel (by unfold z_fuel; omega) (fun z hz => absurd hz (by omega))
theorem gb_sarq {x : Int32} {t u : Nat} (h : t + u < 32) : gb (x >>> (nI t &&& 31)) u = gb x (t + u) := by
  unfold gb
  rw [Int32.toBitVec_shiftRight, sh_amt t (by omega), BitVec.getLsbD_sshiftRight', sh_nat t (by omega), if_pos h, decide_eq_false (by omega)]
  rfl
theorem gb_ushq {x : Int32} {t u : Nat} (h : t + u < 32) : gb (z_ush x (nI t)) u = gb x (t + u) := by
  have hh : ∀ t : Nat, t < 32 → ((nI t).toUInt32 &&& Int32.toUInt32 31).toBitVec % 32 = BitVec.ofNat 32 t := by decide +kernel
  unfold gb z_ush
  show (x.toUInt32.toBitVec >>> (((nI t).toUInt32 &&& Int32.toUInt32 31).toBitVec % 32)).getLsbD u = _
  rw [hh t (by omega), BitVec.ushiftRight_eq', BitVec.getLsbD_ushiftRight, sh_nat t (by omega)]
  rfl
theorem drawq (x : Int32) : (z_ush x (16 : Int32)) &&& (32767 : Int32) = (x >>> ((16 : Int32) &&& 31)) &&& (32767 : Int32) := by
  apply gb_ext
  intro u hu
  rw [gb_and, gb_and, show (32767 : Int32) = nI (2 ^ 15 - 1) from rfl, gb_n hu, Nat.testBit_two_pow_sub_one]
  by_cases h : u < 15
  · rw [show gb (z_ush x (16 : Int32)) u = gb x (16 + u) from gb_ushq (t := 16) (by omega), show gb (x >>> ((16 : Int32) &&& 31)) u = gb x (16 + u) from gb_sarq (t := 16) (by omega)]
  · rw [decide_eq_false h, Bool.and_false, Bool.and_false]
def w_c7 : zWs := ([(87, 4), (101, 1), (101, 2)], [82, 102])
def w_m8 : zWs := ([(87, 4), (101, 1), (101, 2), (107, 1), (107, 30), (107, 31)], [82, 88, 89, 102, 130, 131, 132, 133, 134, 135])
theorem e_place {M : zMM} {t : Nat} {x y : Int32} (ht : t < 5) : f_X4_place_87 (nI t) x y M = some (z_up (z_up M 88 t x) 89 t y) := by
  unfold f_X4_place_87
  rw [z_pt_nI (by decide) ht, z_bv_s, z_pt_nI (by decide) ht, z_bv_s]
theorem e_ride {k0 : Nat} {M0 : zMM} (hI : z_I k0 M0) {a b n t : Nat} (ha : a < tw M0) (hb : b < tw M0) (hy : wy M0 a b n) (ht : t < 5) :
    ∀ r c, c + r = n → ∀ fu gu Mc Mm D, r < fu → r < gu → z_fr w_c7 M0 Mc → z_fr w_m8 M0 Mm → (∀ i, i ≤ n → Mc 82 i = nI (pt_ M0 b i a)) → (M0 107 33 = 1 → Mc 87 4 = Mm 107 30) → D + 10 * r < 2 ^ 20 →
    ∃ x D' Mc' Mm', x < tw M0 ∧ D ≤ D' ∧ D' ≤ D + 10 * r ∧ f_X7_ride_51_p11 fu (nI t) (nI n) (nI D) (nI c) Mc = some (z_up (z_up Mc' 88 t (nI x)) 89 t (nI D')) ∧ f_X8_send_107_p97 gu (nI t) (nI b) (nI (pt_ M0 b c a)) (nI D) (1 : Int32) Mm = some (nI D', z_up (z_up Mm' 124 t (nI x)) 125 t (nI D')) ∧ z_fr ([(87, 4)], []) Mc Mc' ∧ z_fr ([(107, 30)], []) Mm Mm' ∧ (M0 107 33 = 1 → Mc' 87 4 = Mm' 107 30) := by
  have h5 := tw_le hI.j_cnt
  obtain ⟨y1, y2, y3, y4⟩ := hy
  have ib5 : z_ib (nI t) 5 = true := z_ib_n (by decide) ht
  have p243 : ∀ (x D : Nat) (Mm : zMM), f_X8_send_107_p243 (nI t) (nI x) (nI D) Mm = some (nI D, z_up (z_up Mm 124 t (nI x)) 125 t (nI D)) := by
    intro x D Mm
    unfold f_X8_send_107_p243
    rw [if_pos ib5, if_pos ib5, nI_clamp (by omega)]
  intro r
  induction r with
  | zero =>
    intro c hc fu gu Mc Mm D hfu hgu hfc hfm h82 hsd hD
    obtain ⟨fu, rfl⟩ : ∃ m, fu = m + 1 := ⟨fu - 1, by omega⟩
    obtain ⟨gu, rfl⟩ : ∃ m, gu = m + 1 := ⟨gu - 1, by omega⟩
    have hcn : c = n := by omega
    refine ⟨b, D, Mc, Mm, hb, by omega, by omega, ?_, ?_, z_fr.refl, z_fr.refl, hsd⟩
    · unfold f_X7_ride_51_p11 f_X6_stop_80
      rw [hcn, if_pos (nI_le (Nat.le_refl _) (by omega)), z_at_nI (by decide) (by omega), h82 n (Nat.le_refl _), y2, z_bi_s, e_place ht, z_bv_s]
    · unfold f_X8_send_107_p97
      rw [hcn, y2, if_neg (by decide), if_pos rfl, p243]
  | succ r ih =>
    intro c hc fu gu Mc Mm D hfu hgu hfc hfm h82 hsd hD
    obtain ⟨fu, rfl⟩ : ∃ m, fu = m + 1 := ⟨fu - 1, by omega⟩
    obtain ⟨gu, rfl⟩ : ∃ m, gu = m + 1 := ⟨gu - 1, by omega⟩
    have hh := y3 c (by omega)
    have hx := y3 (c + 1) (by omega)
    obtain ⟨g1, g2⟩ := y4 c (by omega)
    obtain ⟨x1, x2, x3, x4, x5⟩ := e_nxq hI hh hb g1 g2
    have epx : pt_ M0 b (c + 1) a = nx_ M0 (pt_ M0 b c a) b := rfl
    generalize hhe : pt_ M0 b c a = h at *
    generalize hxe : nx_ M0 h b = x at *
    have hx' : pt_ M0 b (c + 1) a = x := epx
    obtain ⟨t1, t2, t3, t4, t5, t6, t7, t8, t9⟩ := hI.j_town h hh
    obtain ⟨kd, hkd, kd1, kd2, kd3⟩ := t2.nI
    -- memories that tell the same
    have trf : ∀ M', (∀ b, M' 114 b = M0 114 b) → ∀ u v, tr M' u v = tr M0 u v := fun M' hM u v => by unfold tr; rw [hM]
    have cTrain : ∀ M', z_fr w_c7 M0 M' → ∀ v, v < 5 → 0 < tr M0 h v → f_X5_trainDays_53 (nI h) (nI v) M' = some (nI (tr M0 h v), M') ∧ tr M0 h v ≤ 9 ∧ v < tw M0 := by
      intro M' hf v hv h0
      rw [e_tD (by omega) hv, hf 58 _ rfl]
      rcases e_train hI (a := h) (b := v) (by omega) hv with ⟨-, -, z⟩ | ⟨z, -, -, z2, -, z3, -⟩
      · omega
      · rw [z]; exact ⟨rfl, z2, z3⟩
    have mTrain : ∀ v, v < 5 → 0 < tr M0 h v → M0 114 (5 * h + v) = nI (tr M0 h v) := by
      intro v hv h0
      rcases e_train hI (a := h) (b := v) (by omega) hv with ⟨-, -, z⟩ | ⟨-, z, -⟩
      · omega
      · exact z
    obtain ⟨e1, e2, e3⟩ := cTrain Mc hfc x (by omega) x3
    -- the class's roads
    have go7 : ∀ (Mc1 : zMM) (kx : Int32) (s : Nat), z_fr w_c7 M0 Mc1 → kx ≠ 3 → (kx = 2 ∧ s = 1 ∨ kx ≠ 2 ∧ s = 0) → f_X7_ride_51_p115 (f_X7_ride_51_p11 fu) (nI t) (nI n) (nI D) (nI c) (nI h) (nI x) kx (-1 : Int32) Mc1 = f_X7_ride_51_p11 fu (nI t) (nI n) (nI (D + (tr M0 h x + s))) (nI (c + 1)) Mc1 := by
      intro Mc1 kx s hf h3 h2
      unfold f_X7_ride_51_p115
      rw [if_neg h3, if_pos rfl, (cTrain Mc1 hf x (by omega) x3).1, z_bi_s, nI_1]
      rcases h2 with ⟨h2, hs⟩ | ⟨h2, hs⟩
      · rw [if_pos h2, nI_1, nI_add, hs]
      · rw [if_neg h2, Int32.add_zero, nI_add, hs, nI_1, Nat.add_zero (tr M0 h x)]
    -- the model's roads
    have ib10 : z_ib (nI h) 10 = true := z_ib_n (by decide) (by omega)
    have m110 : ∀ M', z_fr w_m8 M0 M' → M' 110 h = nI kd := fun M' hf => (hf 110 h rfl).trans kd1
    have go200 : ∀ (Mm1 : zMM) (v33 x5' : Int32) (v s : Nat), z_fr w_m8 M0 Mm1 → v < 5 → 0 < tr M0 h v → ((v33 = 0 ∧ s = 0) ∨ (v33 ≠ 0 ∧ (kd = 2 ∧ s = 1 ∨ kd ≠ 2 ∧ s = 0))) → f_X8_send_107_p200 (f_X8_send_107_p97 gu) (nI t) (nI b) (nI h) (nI D) x5' v33 (nI v) Mm1 = f_X8_send_107_p97 gu (nI t) (nI b) (nI v) (nI (D + (tr M0 h v + s))) x5' Mm1 := by
      intro Mm1 v33 x5' v s hf hv h0 hs
      unfold f_X8_send_107_p200
      rw [nI_15, if_pos (z_ib_n (by decide) (by omega)), nI_clamp (by omega), hf 114 _ rfl, mTrain v hv h0, nI_clamp (show h < 2 ^ 31 by omega), m110 Mm1 hf, if_pos ib10]
      rcases hs with ⟨z1, z2⟩ | ⟨z1, ⟨z2, z3⟩ | ⟨z2, z3⟩⟩
      · rw [if_pos z1, Int32.add_zero, nI_add, z2, Nat.add_zero]
      · rw [if_neg z1, if_pos (by rw [z2]; rfl), nI_1, nI_add, z3]
      · rw [if_neg z1, if_neg (show ¬ nI kd = (2 : Int32) from fun q => z2 ((nI_eq (b := 2) (by omega) (by decide)).mp q)), Int32.add_zero, nI_add, z3, Nat.add_zero]
    -- going on by the way
    have onward : ∀ (Mc1 Mm1 : zMM) (s : Nat), s ≤ 1 → z_fr ([(87, 4)], []) Mc Mc1 → z_fr ([(107, 30)], []) Mm Mm1 → (M0 107 33 = 1 → Mc1 87 4 = Mm1 107 30) → ∃ x' D' Mc' Mm', x' < tw M0 ∧ D ≤ D' ∧ D' ≤ D + 10 * (r + 1) ∧ f_X7_ride_51_p11 fu (nI t) (nI n) (nI (D + (tr M0 h x + s))) (nI (c + 1)) Mc1 = some (z_up (z_up Mc' 88 t (nI x')) 89 t (nI D')) ∧ f_X8_send_107_p97 gu (nI t) (nI b) (nI x) (nI (D + (tr M0 h x + s))) (1 : Int32) Mm1 = some (nI D', z_up (z_up Mm' 124 t (nI x')) 125 t (nI D')) ∧ z_fr ([(87, 4)], []) Mc Mc' ∧ z_fr ([(107, 30)], []) Mm Mm' ∧ (M0 107 33 = 1 → Mc' 87 4 = Mm' 107 30) := by
      intro Mc1 Mm1 s hs hf1 hf2 hsd1
      obtain ⟨x', D', Mc', Mm', r1, r2, r3, r4, r5, r6, r7, r8⟩ := ih (c + 1) (by omega) fu gu Mc1 Mm1 (D + (tr M0 h x + s)) (by omega) (by omega) (hfc.sub hf1 (by decide)) (hfm.sub hf2 (by decide)) (fun i hi => by rw [hf1 82 i rfl]; exact h82 i hi) hsd1 (by omega)
      rw [hx'] at r5
      exact ⟨x', D', Mc', Mm', r1, by omega, by omega, r4, r5, hf1.sub r6 (by decide), hf2.sub r7 (by decide), r8⟩
    -- the heads
    have hd7 : ∀ R, (if (Mc 87 3) = 0 then f_X7_ride_51_p91 (f_X7_ride_51_p11 fu) (nI t) (nI n) (nI D) (nI c) (nI h) (nI x) Mc else z_bi (f_X4_draw_87 (1000 : Int32) Mc) fun v35 M36 => if (z_at M36 55 5 (nI h)) ≤ v35 then f_X7_ride_51_p91 (f_X7_ride_51_p11 fu) (nI t) (nI n) (nI D) (nI c) (nI h) (nI x) M36 else f_X7_ride_51_p92 (f_X7_ride_51_p11 fu) (nI t) (nI n) (nI D) (nI c) (nI h) (nI x) (z_at M36 54 5 (nI h)) M36) = R → f_X7_ride_51_p11 (fu + 1) (nI t) (nI n) (nI D) (nI c) Mc = R := by
      intro R hR
      unfold f_X7_ride_51_p11 f_X6_stop_80
      rw [if_neg (nI_ge (by omega) (by omega)), nI_1, z_at_nI (by decide) (by omega), h82 c (by omega), z_bi_s, z_at_nI (by decide) (by omega), h82 (c + 1) (by omega), z_bi_s, hhe, hx']
      exact hR
    have hcM : j_cnt Mm := hI.j_cnt.fr (by decide) hfm
    have htM : j_train Mm := hI.j_train.fr (by decide) hfm
    have slipsEq : ∀ R, (z_bi (f_X8_slips_107 (nI h) Mm) fun v33 M34 => z_bi (f_X8_elsewhere_107 (nI h) (nI x) M34) fun v37 M38 => if v33 = 0 then f_X8_send_107_p166 (f_X8_send_107_p97 gu) (nI t) (nI b) (nI h) (nI D) v33 (nI x) v37 M38 else if M38 110 h = (3 : Int32) then f_X8_send_107_p170 (f_X8_send_107_p97 gu) (nI t) (nI b) (nI h) (nI D) v33 (nI x) v37 M38 else if M38 110 h = (1 : Int32) then (if v37 = (-1 : Int32) then f_X8_send_107_p166 (f_X8_send_107_p97 gu) (nI t) (nI b) (nI h) (nI D) v33 (nI x) v37 M38 else f_X8_send_107_p170 (f_X8_send_107_p97 gu) (nI t) (nI b) (nI h) (nI D) v33 (nI x) v37 M38) else f_X8_send_107_p166 (f_X8_send_107_p97 gu) (nI t) (nI b) (nI h) (nI D) v33 (nI x) v37 M38) = R → f_X8_send_107_p97 (gu + 1) (nI t) (nI b) (nI h) (nI D) (1 : Int32) Mm = R := by
      intro R hR
      unfold f_X8_send_107_p97
      rw [if_neg (by decide), if_neg (fun q => g1 ((nI_eq (by omega) (by omega)).mp q))]
      rw [← hR]
      have key : ∀ (v33 : Int32) (M34 : zMM), f_X8_slips_107 (nI h) Mm = some (v33, M34) → M34 127 (5 * h + b) = nI x := by
        intro v33 M34 e
        rw [R_X8_slips_107 e 127 _ rfl, hfm 127 _ rfl]; exact x2
      cases hsl : f_X8_slips_107 (nI h) Mm with
      | none => rfl
      | some w =>
        obtain ⟨v33, M34⟩ := w
        rw [z_bi_s, z_bi_s, nI_15, if_pos (z_ib_n (by decide) (by omega)), nI_clamp (by omega), key v33 M34 hsl]
        simp only [if_pos ib10, nI_clamp (show h < 2 ^ 31 by omega)]
    -- what elsewhere says on both sides
    have els : ∀ Mc1 Mm1, z_fr w_c7 M0 Mc1 → z_fr w_m8 M0 Mm1 → ∃ r, f_X6_elsewhere_80 (nI h) (nI x) Mc1 = some (r, Mc1) ∧ f_X8_elsewhere_107 (nI h) (nI x) Mm1 = some (r, Mm1) ∧ spq M0 h x r := by
      intro Mc1 Mm1 hf1 hf2
      have e109 : tw Mc1 = tw M0 := by unfold tw; rw [hf1 109 0 rfl]
      obtain ⟨r1, u1, u2⟩ := e_else7J (M := Mc1) (hI.j_cnt.fr (by decide) hf1) (hI.j_train.fr (by decide) hf1) (a := h) (x := x) (by rw [e109]; exact hh) (by omega)
      obtain ⟨r2, v1, v2⟩ := e_else8J (M := Mm1) (hI.j_cnt.fr (by decide) hf2) (hI.j_train.fr (by decide) hf2) (a := h) (x := x) (by omega) (by omega)
      have s1 : spq M0 h x r1 := by
        unfold spq at u2 ⊢
        simp only [trf Mc1 (fun b => hf1 114 b rfl)] at u2
        exact u2
      have s2 : spq M0 h x r2 := by
        unfold spq at v2 ⊢
        simp only [trf Mm1 (fun b => hf2 114 b rfl)] at v2
        exact v2
      rw [spq_inj s2 s1] at v1
      exact ⟨r1, u1, v1, s1⟩
    have stay : ∀ (X : Nat) (E : Nat) (Mm1 : zMM), f_X8_send_107_p97 gu (nI t) (nI b) (nI X) (nI E) (0 : Int32) Mm1 = some (nI E, z_up (z_up Mm1 124 t (nI X)) 125 t (nI E)) := by
      intro X E Mm1
      obtain ⟨gu, rfl⟩ : ∃ m, gu = m + 1 := ⟨gu - 1, by omega⟩
      unfold f_X8_send_107_p97
      rw [if_pos rfl, p243]
    -- without a slip
    have plain : ∀ (Mc1 Mm1 : zMM) (v33 r : Int32), v33 = 0 → z_fr w_c7 M0 Mc1 → z_fr w_m8 M0 Mm1 → f_X7_ride_51_p91 (f_X7_ride_51_p11 fu) (nI t) (nI n) (nI D) (nI c) (nI h) (nI x) Mc1 = f_X7_ride_51_p11 fu (nI t) (nI n) (nI (D + (tr M0 h x + 0))) (nI (c + 1)) Mc1 ∧ f_X8_send_107_p166 (f_X8_send_107_p97 gu) (nI t) (nI b) (nI h) (nI D) v33 (nI x) r Mm1 = f_X8_send_107_p97 gu (nI t) (nI b) (nI x) (nI (D + (tr M0 h x + 0))) (1 : Int32) Mm1 := by
      intro Mc1 Mm1 v33 r hv hf1 hf2
      constructor
      · unfold f_X7_ride_51_p91 f_X7_ride_51_p92
        rw [if_neg (by decide)]
        exact go7 Mc1 0 0 hf1 (by decide) (Or.inr ⟨by decide, rfl⟩)
      · unfold f_X8_send_107_p166 f_X8_send_107_p171 f_X8_send_107_p191
        rw [if_pos hv, if_neg (by decide)]
        exact go200 Mm1 v33 1 x 0 hf2 (by omega) x3 (Or.inl ⟨hv, rfl⟩)
    have c873 : Mc 87 3 = M0 107 33 := (hfc 87 3 rfl).trans hI.j_seed.1
    have m33 : Mm 107 33 = M0 107 33 := hfm 107 33 rfl
    by_cases hseed : M0 107 33 = 0
    · have hs8 : f_X8_slips_107 (nI h) Mm = some ((0 : Int32), Mm) := by
        unfold f_X8_slips_107
        rw [m33, if_pos hseed]
      obtain ⟨r0, u1, u2, u3⟩ := els Mc Mm hfc hfm
      obtain ⟨q1, q2⟩ := plain Mc Mm 0 r0 rfl hfc hfm
      obtain ⟨x', D', Mc', Mm', r1, r2, r3, r4, r5, r6⟩ := onward Mc Mm 0 (by omega) z_fr.refl z_fr.refl hsd
      refine ⟨x', D', Mc', Mm', r1, r2, r3, hd7 _ ?_, slipsEq _ ?_, r6⟩
      · rw [c873, if_pos hseed, q1, r4]
      · rw [hs8, z_bi_s, u2, z_bi_s, if_pos rfl, q2, r5]
    · have hs1 : M0 107 33 = 1 := by
        have := hI.j_seed.2.1
        simp only [z_zb, Bool.or_eq_true, decide_eq_true_eq] at this
        exact this.resolve_left hseed
      have hse := hsd hs1
      generalize hsv : (Mm 107 30) * (1103515245 : Int32) + (12345 : Int32) = sv' at *
      generalize hdv : ((sv' >>> ((16 : Int32) &&& 31)) &&& (32767 : Int32)) - ((sv' >>> ((16 : Int32) &&& 31)) &&& (32767 : Int32)) / (1000 : Int32) * (1000 : Int32) = dv at *
      have hdr : f_X4_draw_87 (1000 : Int32) Mc = some (dv, z_up Mc 87 4 sv') := by
        unfold f_X4_draw_87
        rw [if_neg (by decide), if_pos (by decide), hse, hsv, drawq, hdv]
      have hfc1 : z_fr ([(87, 4)], []) Mc (z_up Mc 87 4 sv') := z_fr.refl.up rfl
      have hfm1 : z_fr ([(107, 30)], []) Mm (z_up Mm 107 30 sv') := z_fr.refl.up rfl
      have hFc : z_fr w_c7 M0 (z_up Mc 87 4 sv') := hfc.up rfl
      have hFm : z_fr w_m8 M0 (z_up Mm 107 30 sv') := hfm.up rfl
      have hsd1 : M0 107 33 = 1 → z_up Mc 87 4 sv' 87 4 = z_up Mm 107 30 sv' 107 30 := fun _ => by rw [z_up_s, z_up_s]
      obtain ⟨r0, u1, u2, u3⟩ := els (z_up Mc 87 4 sv') (z_up Mm 107 30 sv') hFc hFm
      have ch7 : z_at (z_up Mc 87 4 sv') 55 5 (nI h) = M0 111 h := by
        rw [z_at_nI (by decide) (by omega), hFc 55 h rfl, t3]
      have kd7 : z_at (z_up Mc 87 4 sv') 54 5 (nI h) = nI kd := by
        rw [z_at_nI (by decide) (by omega), hFc 54 h rfl, t1, kd1]
      have kd8 : z_up Mm 107 30 sv' 110 h = nI kd := (hFm 110 h rfl).trans kd1
      by_cases hch : M0 111 h ≤ dv
      · have hs8 : f_X8_slips_107 (nI h) Mm = some ((0 : Int32), z_up Mm 107 30 sv') := by
          unfold f_X8_slips_107
          rw [m33, if_neg hseed, if_pos ib10, nI_clamp (by omega), hfm 111 h rfl, hsv, hdv, if_pos hch]
        obtain ⟨q1, q2⟩ := plain (z_up Mc 87 4 sv') (z_up Mm 107 30 sv') 0 r0 rfl hFc hFm
        obtain ⟨x', D', Mc', Mm', r1, r2, r3, r4, r5, r6⟩ := onward (z_up Mc 87 4 sv') (z_up Mm 107 30 sv') 0 (by omega) hfc1 hfm1 hsd1
        refine ⟨x', D', Mc', Mm', r1, r2, r3, hd7 _ ?_, slipsEq _ ?_, r6⟩
        · rw [c873, if_neg hseed, hdr, z_bi_s, ch7, if_pos hch, q1, r4]
        · rw [hs8, z_bi_s, u2, z_bi_s, if_pos rfl, q2, r5]
      · have hs8 : f_X8_slips_107 (nI h) Mm = some ((1 : Int32), z_up Mm 107 30 sv') := by
          unfold f_X8_slips_107
          rw [m33, if_neg hseed, if_pos ib10, nI_clamp (by omega), hfm 111 h rfl, hsv, hdv, if_neg hch]
        have top7 : ∀ R, f_X7_ride_51_p92 (f_X7_ride_51_p11 fu) (nI t) (nI n) (nI D) (nI c) (nI h) (nI x) (nI kd) (z_up Mc 87 4 sv') = R → f_X7_ride_51_p11 (fu + 1) (nI t) (nI n) (nI D) (nI c) Mc = R := by
          intro R hR
          refine hd7 R ?_
          rw [c873, if_neg hseed, hdr, z_bi_s, ch7, if_neg hch, kd7]
          exact hR
        have top8 : ∀ R, (if nI kd = (3 : Int32) then f_X8_send_107_p170 (f_X8_send_107_p97 gu) (nI t) (nI b) (nI h) (nI D) 1 (nI x) r0 (z_up Mm 107 30 sv') else if nI kd = (1 : Int32) then (if r0 = (-1 : Int32) then f_X8_send_107_p166 (f_X8_send_107_p97 gu) (nI t) (nI b) (nI h) (nI D) 1 (nI x) r0 (z_up Mm 107 30 sv') else f_X8_send_107_p170 (f_X8_send_107_p97 gu) (nI t) (nI b) (nI h) (nI D) 1 (nI x) r0 (z_up Mm 107 30 sv')) else f_X8_send_107_p166 (f_X8_send_107_p97 gu) (nI t) (nI b) (nI h) (nI D) 1 (nI x) r0 (z_up Mm 107 30 sv')) = R → f_X8_send_107_p97 (gu + 1) (nI t) (nI b) (nI h) (nI D) (1 : Int32) Mm = R := by
          intro R hR
          refine slipsEq R ?_
          rw [hs8, z_bi_s, u2, z_bi_s, if_neg (by decide), kd8]
          exact hR
        have n13 : ∀ j, j < 10 → (nI kd = nI j ↔ kd = j) := fun j hj => nI_eq (by omega) (by omega)
        have p166 : ∀ s, kd ≠ 3 → (kd = 2 ∧ s = 1 ∨ kd ≠ 2 ∧ s = 0) → f_X8_send_107_p166 (f_X8_send_107_p97 gu) (nI t) (nI b) (nI h) (nI D) 1 (nI x) r0 (z_up Mm 107 30 sv') = f_X8_send_107_p97 gu (nI t) (nI b) (nI x) (nI (D + (tr M0 h x + s))) (1 : Int32) (z_up Mm 107 30 sv') := by
          intro s h3 hs
          unfold f_X8_send_107_p166 f_X8_send_107_p171 f_X8_send_107_p191
          rw [if_neg (by decide), if_pos ib10, nI_clamp (by omega), kd8, if_neg (show ¬ nI kd = (3 : Int32) from fun q => h3 ((n13 3 (by omega)).mp q)), if_neg (by decide)]
          exact go200 (z_up Mm 107 30 sv') 1 1 x s hFm (by omega) x3 (Or.inr ⟨by decide, hs⟩)
        by_cases k3 : kd = 3
        · -- a lazy one
          refine ⟨h, D, z_up Mc 87 4 sv', z_up Mm 107 30 sv', hh, by omega, by omega, top7 _ ?_, top8 _ ?_, hfc1, hfm1, hsd1⟩
          · unfold f_X7_ride_51_p92 f_X7_ride_51_p115
            rw [k3, if_neg (by decide), if_pos (show nI 3 = (3 : Int32) from rfl), e_place ht, z_bv_s]
          · rw [if_pos (by rw [k3]; rfl)]
            unfold f_X8_send_107_p170 f_X8_send_107_p171
            rw [if_neg (by decide), if_pos ib10, nI_clamp (by omega), kd8, if_pos (by rw [k3]; rfl), stay]
        · have k3' : ¬ nI kd = (3 : Int32) := fun q => k3 ((n13 3 (by omega)).mp q)
          by_cases k1 : kd = 1
          · -- a drunk one
            by_cases hr0 : r0 = -1
            · obtain ⟨x', D', Mc', Mm', r1, r2, r3, r4, r5, r6⟩ := onward (z_up Mc 87 4 sv') (z_up Mm 107 30 sv') 0 (by omega) hfc1 hfm1 hsd1
              refine ⟨x', D', Mc', Mm', r1, r2, r3, top7 _ ?_, top8 _ ?_, r6⟩
              · unfold f_X7_ride_51_p92
                rw [if_pos (by rw [k1]; rfl), u1, z_bi_s, hr0, go7 (z_up Mc 87 4 sv') (nI kd) 0 hFc k3' (Or.inr ⟨fun q => by have := (n13 2 (by omega)).mp q; omega, rfl⟩), r4]
              · rw [if_neg k3', if_pos (by rw [k1]; rfl), if_pos hr0, p166 0 k3 (Or.inr ⟨by omega, rfl⟩), r5]
            · rcases u3 with ⟨z, -⟩ | ⟨v, v1, v2, ⟨v3, v4⟩, -⟩
              · exact absurd z hr0
              · obtain ⟨w1, w2, w3⟩ := cTrain (z_up Mc 87 4 sv') hFc v v1 v4
                refine ⟨v, D + (tr M0 h v + 0), z_up Mc 87 4 sv', z_up Mm 107 30 sv', w3, by omega, by omega, top7 _ ?_, top8 _ ?_, hfc1, hfm1, hsd1⟩
                · unfold f_X7_ride_51_p92 f_X7_ride_51_p115
                  rw [if_pos (by rw [k1]; rfl), u1, z_bi_s, if_neg k3', if_neg hr0, v2, w1, z_bi_s, nI_add, e_place ht, z_bv_s]
                  rfl
                · rw [if_neg k3', if_pos (by rw [k1]; rfl), if_neg hr0, v2]
                  unfold f_X8_send_107_p170 f_X8_send_107_p171 f_X8_send_107_p191
                  rw [if_neg (by decide), if_pos ib10, nI_clamp (by omega), kd8, if_neg k3', if_pos rfl, go200 (z_up Mm 107 30 sv') 1 0 v 0 hFm v1 v4 (Or.inr ⟨by decide, Or.inr ⟨by omega, rfl⟩⟩), stay]
          · -- a slow one, or a careful one
            have k1' : ¬ nI kd = (1 : Int32) := fun q => k1 ((n13 1 (by omega)).mp q)
            obtain ⟨s, hs1', hs⟩ : ∃ s, s ≤ 1 ∧ (kd = 2 ∧ s = 1 ∨ kd ≠ 2 ∧ s = 0) := by
              by_cases k2 : kd = 2
              · exact ⟨1, by omega, Or.inl ⟨k2, rfl⟩⟩
              · exact ⟨0, by omega, Or.inr ⟨k2, rfl⟩⟩
            obtain ⟨x', D', Mc', Mm', r1, r2, r3, r4, r5, r6⟩ := onward (z_up Mc 87 4 sv') (z_up Mm 107 30 sv') s hs1' hfc1 hfm1 hsd1
            refine ⟨x', D', Mc', Mm', r1, r2, r3, top7 _ ?_, top8 _ ?_, r6⟩
            · unfold f_X7_ride_51_p92
              rw [if_neg k1', go7 (z_up Mc 87 4 sv') (nI kd) s hFc k3' (hs.imp (fun z => ⟨by rw [z.1]; rfl, z.2⟩) (fun z => ⟨fun q => z.1 ((n13 2 (by omega)).mp q), z.2⟩)), r4]
            · rw [if_neg k3', if_neg k1', p166 s k3 hs, r5]

