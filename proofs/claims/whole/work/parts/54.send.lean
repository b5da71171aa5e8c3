/-! ===== send, the case ===== -/
theorem B_send : z_op_send := by
  intro k M a1 a2 hk hI
  have qK := hI.j_cnt.2.1
  have bK := hI.j_cnt.2.2.2.2.2.2.1
  have qT := hI.j_cnt.1
  have bT := hI.j_cnt.2.2.2.2.2.1
  have h5 := tw_le hI.j_cnt
  have hk5 := tk_le hI.j_cnt
  have hfail : f_X7_send_51 a1 a2 M = some (.inr 0, M) → f_X8_send_107 a1 a2 M = some ((0 : Int32), z_up (z_up M 107 1 (0 : Int32)) 107 1 (1 : Int32)) → ∃ (o : Int32 ⊕ Nat) (M1 : zMM) (b : Int32) (M2 : zMM), f_X7_send_51 a1 a2 M = some (o, M1) ∧ f_X8_send_107 a1 a2 M1 = some (b, M2) ∧ z_ag o b (M2 107 1) (some 1) none ∧ z_I (k + 1) M2 :=
    fun h1 h3 => ⟨.inr 0, M, 0, _, h1, h3, ⟨1, rfl, rfl, by decide⟩, hI.code ((z_fr.refl.up rfl).up rfl)⟩
  have hM0 : a1 < 0 ∨ (¬ a1 < 0 ∧ ¬ a1 < M 109 1) → ∃ (o : Int32 ⊕ Nat) (M1 : zMM) (b : Int32) (M2 : zMM), f_X7_send_51 a1 a2 M = some (o, M1) ∧ f_X8_send_107 a1 a2 M1 = some (b, M2) ∧ z_ag o b (M2 107 1) (some 1) none ∧ z_I (k + 1) M2 := by
    intro h
    refine hfail ?_ ?_
    · unfold f_X7_send_51; rw [e_pTrunk0 qK h]; rfl
    · unfold f_X8_send_107; rw [e_mTrunk0 (M := z_up M 107 1 (0 : Int32)) bK h]; rfl
  rcases z_ix a1 bK with h | h | ⟨t, ht, rfl, h0, h1⟩
  · exact hM0 (Or.inl h)
  · exact hM0 (Or.inr h)
  have hM1 : a2 < 0 ∨ (¬ a2 < 0 ∧ ¬ a2 < M 109 0) → ∃ (o : Int32 ⊕ Nat) (M1 : zMM) (b : Int32) (M2 : zMM), f_X7_send_51 (nI t) a2 M = some (o, M1) ∧ f_X8_send_107 (nI t) a2 M1 = some (b, M2) ∧ z_ag o b (M2 107 1) (some 1) none ∧ z_I (k + 1) M2 := by
    intro h
    refine hfail ?_ ?_
    · unfold f_X7_send_51; rw [e_pTrunk1 qK h0 h1, z_bt_l, e_pTown0 qT h]; rfl
    · unfold f_X8_send_107; rw [e_mTrunk1 (M := z_up M 107 1 (0 : Int32)) bK h0 h1, z_bi_s, if_neg (by decide), e_mTown0 (M := z_up M 107 1 (0 : Int32)) bT h]; rfl
  rcases z_ix a2 bT with h | h | ⟨b, hb, rfl, h2, h3⟩
  · exact hM1 (Or.inl h)
  · exact hM1 (Or.inr h)
  have ht' : t < tk M := ht
  have hb' : b < tw M := hb
  obtain ⟨l1, l2, l3, l4, l5⟩ := hI.j_place.1 t ht'
  obtain ⟨a, ha0, ea1⟩ := nI_of (x := M 124 t) (by rw [Int32.lt_iff_toInt_lt]; show ¬ (M 124 t).toInt < 0; omega)
  have ha : a < tw M := by rw [ea1, nI_clamp ha0] at l3; exact l3
  obtain ⟨a5, b5, w1, w2⟩ := e_way hI ha hb'
  have ib5 : z_ib (nI t) 5 = true := z_ib_n (by decide) (by omega)
  -- heads
  have e7 : ∀ R, (if M 107 29 < M 125 t then f_X7_send_51_p50 (nI t) M else if M 124 t = nI b then f_X7_send_51_p50 (nI t) M else z_bi (f_X6_lay_80 (M 124 t) (nI b) M) fun v25 M26 => f_X7_send_51_p51 (nI t) v25 M26) = R → f_X7_send_51 (nI t) (nI b) M = R := by
    intro R hR
    unfold f_X7_send_51 f_X4_isThere_87
    rw [e_pTrunk1 qK h0 h1, z_bt_l, e_pTown1 qT h2 h3, z_bt_l, z_at_nI (by decide) (by omega), z_at_nI (by decide) (by omega), l1, l4, hI.j_day.1, ← hR]
    by_cases g : M 107 29 < M 125 t
    · rw [if_pos g, if_pos g]; rfl
    · rw [if_neg g, if_neg g]; rfl
  have e8 : ∀ M1 R, M1 109 1 = M 109 1 → M1 109 0 = M 109 0 → M1 107 29 = M 107 29 → M1 125 t = M 125 t → M1 124 t = M 124 t → M1 126 (5 * a + b) = M 126 (5 * a + b) → (if M 107 29 < M 125 t then f_X8_send_107_p64 (z_up M1 107 1 (0 : Int32)) else if M 124 t = nI b then f_X8_send_107_p64 (z_up M1 107 1 (0 : Int32)) else if wd M a b = 1000000 then f_X8_send_107_p64 (z_up M1 107 1 (0 : Int32)) else z_bv (f_X8_note_107 (nI t) (z_up M1 107 1 (0 : Int32))) fun M26 => f_X8_send_107_p97 z_fuel (nI t) (nI b) (M26 124 t) (M26 107 29) (1 : Int32) M26) = R → f_X8_send_107 (nI t) (nI b) M1 = R := by
    intro M1 R f1 f2 f3 f4 f5 f6 hR
    unfold f_X8_send_107
    have bK1 : z_bd (z_up M1 107 1 (0 : Int32) 109 1) 0 5 := by show z_bd (M1 109 1) 0 5; rw [f1]; exact bK
    have bT1 : z_bd (z_up M1 107 1 (0 : Int32) 109 0) 0 5 := by show z_bd (M1 109 0) 0 5; rw [f2]; exact bT
    have eW : wd (z_up M1 107 1 (0 : Int32)) a b = wd M a b := by unfold wd; rw [show z_up M1 107 1 (0 : Int32) 126 (5 * a + b) = M1 126 (5 * a + b) from rfl, f6]
    rw [e_mTrunk1 bK1 h0 (by show nI t < M1 109 1; rw [f1]; exact h1), z_bi_s, if_neg (by decide), e_mTown1 bT1 h2 (by show nI b < M1 109 0; rw [f2]; exact h3), z_bi_s, if_neg (by decide), if_pos ib5, if_pos ib5, if_pos ib5, nI_clamp (by omega), show z_up M1 107 1 (0 : Int32) 107 29 = M 107 29 from f3, show z_up M1 107 1 (0 : Int32) 125 t = M 125 t from f4, show z_up M1 107 1 (0 : Int32) 124 t = M 124 t from f5, ea1, e_hasWay a5 b5 (by rw [eW]; show M1 126 _ = _; rw [f6]; exact w1) (by rw [eW]; omega), z_bi_s, eW, ← hR]
    simp only [if_pos ib5]
    by_cases g : M 107 29 < M 125 t
    · rw [if_pos g, if_pos g]
    · rw [if_neg g, if_neg g]
      by_cases g2 : M 124 t = nI b
      · rw [if_pos (ea1 ▸ g2), if_pos g2]
      · rw [if_neg (fun z => g2 (ea1.trans z)), if_neg g2]
        by_cases g3 : wd M a b = 1000000
        · rw [if_pos g3, if_pos g3]; rfl
        · rw [if_neg g3, if_neg g3]; rfl
  have refuse : (M 107 29 < M 125 t ∨ M 124 t = nI b ∨ wd M a b = 1000000) → ∃ (o : Int32 ⊕ Nat) (M1 : zMM) (b' : Int32) (M2 : zMM), f_X7_send_51 (nI t) (nI b) M = some (o, M1) ∧ f_X8_send_107 (nI t) (nI b) M1 = some (b', M2) ∧ z_ag o b' (M2 107 1) (some 1) none ∧ z_I (k + 1) M2 := by
    intro hr
    have c51 : f_X7_send_51_p51 (nI t) (-1 : Int32) M = some (.inl (-1), z_up M 93 1 (M 93 1 + 1)) := by
      unfold f_X7_send_51_p51 f_X4_refuse_87
      rw [if_pos rfl, show z_at M 93 3 (1 : Int32) = M 93 1 from z_at_nI (n := 1) (by decide) (by decide), show z_pt M 93 3 (1 : Int32) (M 93 1 + 1) = z_up M 93 1 (M 93 1 + 1) from z_pt_nI (n := 1) (by decide) (by decide)]
      rfl
    refine ⟨.inl (-1), z_up M 93 1 (M 93 1 + 1), -1, z_up (z_up (z_up M 93 1 (M 93 1 + 1)) 107 1 (0 : Int32)) 122 1 (M 122 1 + 1), e7 _ ?_, e8 _ _ rfl rfl rfl rfl rfl rfl ?_, ⟨rfl, rfl⟩, ?_⟩
    · by_cases g : M 107 29 < M 125 t
      · rw [if_pos g]; exact c51
      · rw [if_neg g]
        by_cases g2 : M 124 t = nI b
        · rw [if_pos g2]; exact c51
        · rw [if_neg g2, ea1, e_lay0 hI ha hb' (by rcases hr with z | z | z; exact absurd z g; exact absurd z g2; omega), z_bi_s]
          exact c51
    · by_cases g : M 107 29 < M 125 t
      · rw [if_pos g]; rfl
      · rw [if_neg g]
        by_cases g2 : M 124 t = nI b
        · rw [if_pos g2]; rfl
        · rw [if_neg g2, if_pos (by rcases hr with z | z | z; exact absurd z g; exact absurd z g2; exact z)]; rfl
    · have hf : z_fr ([(107, 1)], [93, 122]) M (z_up (z_up (z_up M 93 1 (M 93 1 + 1)) 107 1 (0 : Int32)) 122 1 (M 122 1 + 1)) := ((z_fr.refl.up rfl).up rfl).up rfl
      have hJ : j_stat (z_up (z_up (z_up M 93 1 (M 93 1 + 1)) 107 1 (0 : Int32)) 122 1 (M 122 1 + 1)) := by
        intro i hi
        have old := hI.j_stat i hi
        show (if i = 1 then M 93 1 + 1 else M 93 i) = (if i = 1 then M 122 1 + 1 else M 122 i)
        by_cases h : i = 1
        · rw [if_pos h, if_pos h, hI.j_stat 1 (by decide)]
        · rw [if_neg h, if_neg h]; exact old
      exact ⟨(hI.j_tape.fr (by decide) hf), (hI.j_fault.fr (by decide) hf), (hI.j_cnt.fr (by decide) hf), (hI.j_town.fr (by decide) hf), (hI.j_train.fr (by decide) hf), (hI.j_thing.fr (by decide) hf), (hI.j_play.fr (by decide) hf), (hI.j_like.fr (by decide) hf), (hI.j_day.fr (by decide) hf).mono, (hI.j_seed.fr (by decide) hf), (hI.j_place.fr (by decide) hf).mono, (hI.j_night.fr (by decide) hf), hJ, (hI.j_plan.fr (by decide) hf), (hI.j_st1.fr (by decide) hf), (hI.j_st2.fr (by decide) hf), (hI.j_img.fr (by decide) hf).mono, (hI.j_past.fr (by decide) hf).mono, (hI.j_ways.fr (by decide) hf), (hI.j_known.fr (by decide) hf)⟩
  by_cases g : M 107 29 < M 125 t
  · exact refuse (Or.inl g)
  by_cases g2 : M 124 t = nI b
  · exact refuse (Or.inr (Or.inl g2))
  by_cases g3 : wd M a b = 1000000
  · exact refuse (Or.inr (Or.inr g3))
  have hw : wd M a b < 1000 := by omega
  obtain ⟨n, hy⟩ := e_wy hI ha hb' hw
  have n4 := hy.1
  obtain ⟨Ml, y1, y2⟩ := e_lay hI ha hb' hw hy
  have fl : z_fr ([], [82]) M Ml := R_X6_lay_80 y1
  obtain ⟨w, wl, hw1, -, hw9⟩ := hI.j_past.2.2.1.nI
  obtain ⟨u, ul, hu, hu2, hu9⟩ := hI.j_past.2.1.nI
  have hs : M 101 2 = nI u := hI.j_past.1.trans hu
  obtain ⟨Mk, r, k1, hr, a1', a2', c0, c1, c2, c3, c4⟩ := e_keep (M := Ml) (w := w) (s := u) ((fl 101 1 rfl).trans hw1) (by omega) ((fl 101 2 rfl).trans hs) (by omega)
  have fk := R_X0_keep_101_87 k1
  obtain ⟨S1, S2, S3⟩ := hI.j_seed
  obtain ⟨D, hD, d1, d2, d3⟩ := hI.j_day.2.nI
  have hfc : z_fr w_c7 M Mk := (z_fr.refl.sub fl (by decide)).sub fk (by decide)
  -- the ride, over any memory of the model
  have ride := fun Mm (hfm : z_fr w_m8 M Mm) (hsd : M 107 33 = 1 → Mk 87 4 = Mm 107 30) => e_ride hI ha hb' hy (show t < 5 by omega) n 0 (by omega) z_fuel z_fuel Mk Mm D (by unfold z_fuel; omega) (by unfold z_fuel; omega) hfc hfm (fun i hi => by rw [fk 82 i rfl]; exact y2 i hi) hsd (by omega)
  have k874 : Mk 87 4 = M 87 4 := (fk 87 4 rfl).trans (fl 87 4 rfl)
  obtain ⟨x0, D0, Mc0, -, x1, x2, x3, x4, -, x6, -, -⟩ := ride M z_fr.refl (fun h => by rw [k874]; exact S3 h)
  have fc0 : z_fr w_c7 M Mc0 := hfc.sub x6 (by decide)
  have hC : f_X7_send_51 (nI t) (nI b) M = some (.inl (nI D0), z_up (z_up Mc0 88 t (nI x0)) 89 t (nI D0)) := by
    refine e7 _ ?_
    rw [if_neg g, if_neg g2, ea1, y1, z_bi_s]
    unfold f_X7_send_51_p51 f_X7_ride_51
    rw [if_neg (nI_m1 (by omega)), k1, z_bv_s, show Mk 87 2 = nI D from ((fk 87 2 rfl).trans (fl 87 2 rfl)).trans (hI.j_day.1.trans d1), show f_X7_ride_51_p11 z_fuel (nI t) (nI n) (nI D) (0 : Int32) Mk = _ from x4, z_bv_s, z_at_nI (by decide) (by omega), z_up_s]
  have fX : z_fr w_m8 M (z_up (z_up (z_up Mc0 88 t (nI x0)) 89 t (nI D0)) 107 1 (0 : Int32)) := (((z_fr.refl.sub fc0 (by decide)).up rfl).up rfl).up rfl
  generalize hX : z_up (z_up (z_up Mc0 88 t (nI x0)) 89 t (nI D0)) 107 1 (0 : Int32) = X at *
  have X88 : X 88 t = nI x0 := by rw [← hX, z_up_o (by decide), z_up_o (by decide), z_up_s]
  have X89 : X 89 t = nI D0 := by rw [← hX, z_up_o (by decide), z_up_s]
  have X88o : ∀ t', t' ≠ t → X 88 t' = M 88 t' ∧ X 89 t' = M 89 t' := by
    intro t' hne
    rw [← hX, z_up_o (by decide), z_up_o (by decide), z_up_n hne, z_up_o (by decide), z_up_n hne, z_up_o (by decide)]
    exact ⟨fc0 88 t' rfl, fc0 89 t' rfl⟩
  have X1 : X 107 1 = 0 := by rw [← hX, z_up_s]
  have Xo : ∀ c b, c ≠ 88 → c ≠ 89 → c ≠ 107 → X c b = Mc0 c b := by
    intro c b h1 h2 h3
    rw [← hX, z_up_o h3, z_up_o h2, z_up_o h1]
  have gw : ∀ c, 130 ≤ c ∧ c ≤ 135 → ∀ b, X c b = M c b := by
    intro c hc b
    rw [Xo c b (by omega) (by omega) (by omega)]
    have : c = 130 ∨ c = 131 ∨ c = 132 ∨ c = 133 ∨ c = 134 ∨ c = 135 := by omega
    rcases this with rfl | rfl | rfl | rfl | rfl | rfl
    all_goals exact fc0 _ b rfl
  have X31 : X 107 31 = nI u := by
    rw [← hX]
    show Mc0 107 31 = nI u
    exact (fc0 107 31 rfl).trans hu
  have X33 : X 107 33 = M 107 33 := fX 107 33 rfl
  have X29 : X 107 29 = M 107 29 := fX 107 29 rfl
  have X30 : X 107 30 = M 107 30 := by
    rw [← hX]
    show Mc0 107 30 = M 107 30
    exact fc0 107 30 rfl
  obtain ⟨Mn, e, n1, he, n31, n130, n131, n132, n133, n134, n135, nold⟩ := e_note (M := X) (u := u) (x := nI t) X31 (by omega) (by rw [X33]; exact S2) (fun h100 i hi => by
    rw [gw 135 (by decide)]
    have := hI.j_past.2.2.2 (99 - i) (by unfold un; rw [hu2]; omega)
    have := this.2.2.2.1
    unfold un at this
    rw [hu2, show u - 1 - (99 - i) = i by omega] at this
    exact this) (Or.inr ⟨t, by omega, rfl⟩)
  have fn := R_X8_note_107 n1
  have fMn : z_fr w_m8 M Mn := fX.sub fn (by decide)
  obtain ⟨x0', D0', Mc0', Mm', v1, v2, v3, v4, v5, v6, v7, v8⟩ := ride Mn fMn (fun h => by rw [k874, fn 107 30 rfl, X30]; exact S3 h)
  have hEq : z_up (z_up Mc0 88 t (nI x0)) 89 t (nI D0) = z_up (z_up Mc0' 88 t (nI x0')) 89 t (nI D0') := by
    rw [x4] at v4
    injection v4
  have hx0 : nI x0 = nI x0' := by
    have := congrFun (congrFun hEq 88) t
    rw [z_up_o (by decide), z_up_s, z_up_o (by decide), z_up_s] at this
    exact this
  have hD0 : nI D0 = nI D0' := by
    have := congrFun (congrFun hEq 89) t
    rw [z_up_s, z_up_s] at this
    exact this
  have h874 : Mc0 87 4 = Mc0' 87 4 := congrFun (congrFun hEq 87) 4
  rw [← hx0, ← hD0] at v5
  have m124 : Mn 124 t = nI a := ((fn 124 t rfl).trans (fX 124 t rfl)).trans ea1
  have m29 : Mn 107 29 = nI D := ((fn 107 29 rfl).trans X29).trans d1
  have hM : f_X8_send_107 (nI t) (nI b) (z_up (z_up Mc0 88 t (nI x0)) 89 t (nI D0)) = some (nI D0, z_up (z_up Mm' 124 t (nI x0)) 125 t (nI D0)) := by
    refine e8 _ _ (fc0 109 1 rfl) (fc0 109 0 rfl) (fc0 107 29 rfl) (fc0 125 t rfl) (fc0 124 t rfl) (fc0 126 _ rfl) ?_
    rw [if_neg g, if_neg g2, if_neg g3, hX, n1, z_bv_s, m124, m29]
    exact v5
  have fm : z_fr ([(107, 30)], []) Mn Mm' := v7
  generalize hY : z_up (z_up Mm' 124 t (nI x0)) 125 t (nI D0) = Y at *
  have fY : z_fr ([(107, 30)], [124, 125]) Mn Y := by rw [← hY]; exact ((z_fr.refl.sub fm (by decide)).up rfl).up rfl
  have hf : z_fr ([(87, 4), (101, 1), (101, 2), (107, 1), (107, 30), (107, 31)], [82, 88, 89, 102, 124, 125, 130, 131, 132, 133, 134, 135]) M Y := (z_fr.refl.sub fMn (by decide)).sub fY (by decide)
  have Y124 : Y 124 t = nI x0 := by rw [← hY, z_up_o (by decide), z_up_s]
  have Y125 : Y 125 t = nI D0 := by rw [← hY, z_up_s]
  have Y124o : ∀ t', t' ≠ t → Y 124 t' = M 124 t' ∧ Y 125 t' = M 125 t' := by
    intro t' hne
    rw [← hY, z_up_o (by decide), z_up_n hne, z_up_n hne, z_up_o (by decide), fm 124 t' rfl, fm 125 t' rfl, fMn 124 t' rfl, fMn 125 t' rfl]
    exact ⟨rfl, rfl⟩
  have Yc : ∀ c b, c ≠ 124 → c ≠ 125 → c ≠ 107 → Y c b = Mn c b := by
    intro c b q1 q2 q3
    rw [← hY, z_up_o q2, z_up_o q1]
    refine fm c b ?_
    show (!(([] : List Nat).contains c) && !(([(107, 30)] : List (Nat × Nat)).contains (c, b))) = true
    simp [q3]
  have Y88 : ∀ t', Y 88 t' = X 88 t' ∧ Y 89 t' = X 89 t' := fun t' => ⟨(Yc 88 t' (by decide) (by decide) (by decide)).trans (fn 88 t' rfl), (Yc 89 t' (by decide) (by decide) (by decide)).trans (fn 89 t' rfl)⟩
  have Y102 : ∀ b, Y 102 b = Mk 102 b := fun b => by
    rw [Yc 102 b (by decide) (by decide) (by decide), fn 102 b rfl, Xo 102 b (by decide) (by decide) (by decide)]
    exact x6 102 b rfl
  have Y101 : ∀ b, Y 101 b = Mk 101 b := fun b => by
    rw [Yc 101 b (by decide) (by decide) (by decide), fn 101 b rfl, Xo 101 b (by decide) (by decide) (by decide)]
    exact x6 101 b rfl
  have Y874 : Y 87 4 = Mc0' 87 4 := by
    rw [Yc 87 4 (by decide) (by decide) (by decide), fn 87 4 rfl, Xo 87 4 (by decide) (by decide) (by decide), h874]
  have Y10730 : Y 107 30 = Mm' 107 30 := by rw [← hY]; rfl
  have etk : tk Y = tk M := by unfold tk; rw [hf 109 1 rfl]
  have etw : tw Y = tw M := by unfold tw; rw [hf 109 0 rfl]
  have hcast : (D : Int) ≤ 100 * k := d3
  have js : j_seed Y := ⟨(hf 87 3 rfl).trans (S1.trans (hf 107 33 rfl).symm), by rw [hf 107 33 rfl]; exact S2, fun h => by rw [Y874, Y10730]; rw [hf 107 33 rfl] at h; exact v8 h⟩
  have jp : j_place (k + 1) Y := by
    refine ⟨fun t' ht2 => ?_, fun t' ht2 ht5 => ?_⟩
    · rw [etk] at ht2
      by_cases hne : t' = t
      · rw [hne, (Y88 t).1, (Y88 t).2, X88, X89, Y124, Y125, etw]
        refine ⟨rfl, by rw [nI_toInt (by omega)]; omega, by rw [nI_clamp (by omega)]; exact x1, rfl, by rw [nI_toInt (by omega)]; omega, by rw [nI_toInt (by omega)]; omega⟩
      · rw [(Y88 t').1, (Y88 t').2, (X88o t' hne).1, (X88o t' hne).2, (Y124o t' hne).1, (Y124o t' hne).2, etw]
        exact (hI.j_place.mono).1 t' ht2
    · rw [etk] at ht2
      rw [(Y88 t').1, (X88o t' (by omega)).1]
      exact hI.j_place.2 t' ht2 ht5
  have ja : j_past k Y := by
    refine hI.j_past.push (M2 := Y) (x := nI t) (w := w) (u := u) (r := r) (e := e) hI.j_day hI.j_seed hI.j_place hI.j_cnt hw1 (by omega) hu (by omega) hr he ?_ ?_ ?_ ?_ ?_ ?_ ?_ ?_ ?_ ?_ ?_ ?_ ?_ ?_ ?_ ?_ ?_
    · rw [Y101]; exact a1'
    · rw [Y101]; exact a2'
    · rw [← hY]; show Mm' 107 31 = _; rw [fm 107 31 rfl]; exact n31
    · rw [Y102, c0]; exact fl 87 2 rfl
    · rw [Y102, c1, fl 87 3 rfl]
    · rw [Y102, c2]; exact fl 87 4 rfl
    · intro t' ht2; rw [Y102, Y102, (c3 t' ht2).1, (c3 t' ht2).2]; exact ⟨fl 88 t' rfl, fl 89 t' rfl⟩
    · intro b' hb2; rw [Y102, c4 b' hb2]; exact fl 102 b' rfl
    · rw [Yc 130 _ (by decide) (by decide) (by decide)]; exact n130
    · rw [Yc 131 _ (by decide) (by decide) (by decide), n131, fX 124 _ rfl]
    · rw [Yc 132 _ (by decide) (by decide) (by decide), n132, fX 125 _ rfl]
    · rw [Yc 133 _ (by decide) (by decide) (by decide), n133]; exact X29
    · rw [Yc 134 _ (by decide) (by decide) (by decide), n134]; exact X30
    · rw [Yc 135 _ (by decide) (by decide) (by decide), n135]; exact X33
    · intro c hc i hi
      rw [Yc c _ (by omega) (by omega) (by omega), nold c hc i hi, gw c hc]
    · intro b'; exact hf 109 b' rfl
    · exact Or.inr ⟨t, ht', rfl, fun t' ht2 hne => ⟨(Y88 t').1.trans (X88o t' hne).1, (Y88 t').2.trans (X88o t' hne).2⟩⟩
  refine ⟨_, _, _, Y, hC, hM, ⟨?_, rfl⟩, ?_⟩
  · show Y 107 1 = 0
    rw [← hY]; show Mm' 107 1 = 0
    rw [fm 107 1 rfl, fn 107 1 rfl]; exact X1
  · exact ⟨(hI.j_tape.fr (by decide) hf), (hI.j_fault.fr (by decide) hf), (hI.j_cnt.fr (by decide) hf), (hI.j_town.fr (by decide) hf), (hI.j_train.fr (by decide) hf), (hI.j_thing.fr (by decide) hf), (hI.j_play.fr (by decide) hf), (hI.j_like.fr (by decide) hf), (hI.j_day.fr (by decide) hf).mono, js, jp, (hI.j_night.fr (by decide) hf), (hI.j_stat.fr (by decide) hf), (hI.j_plan.fr (by decide) hf), (hI.j_st1.fr (by decide) hf), (hI.j_st2.fr (by decide) hf), (hI.j_img.fr (by decide) hf).mono, ja.mono, (hI.j_ways.fr (by decide) hf), (hI.j_known.fr (by decide) hf)⟩

