/-! ===== told: all is told anew ===== -/
theorem bd_nq {v : Nat} {lo hi : Int} (h1 : lo ≤ (v : Int)) (h2 : (v : Int) ≤ hi) (h : v < 2 ^ 31) : z_bd (nI v) lo hi := by
  unfold z_bd
  rw [nI_toInt h]
  exact ⟨h1, h2⟩
def w_scq : zWs := ([(51, 1), (51, 2), (51, 10), (53, 0), (53, 6), (53, 8), (53, 11), (53, 16), (87, 2), (87, 3), (87, 4), (87, 5), (101, 2), (103, 7)], [54, 55, 56, 57, 58, 59, 60, 61, 62, 63, 64, 65, 81, 84, 88, 89])
theorem succ_fr {Mc M1 : zMM} (h : (z_bv (f_X5_takeFrom_53_66 (z_up (z_up Mc 51 1 (0 : Int32)) 51 2 (Mc 79 10))) fun M12 => z_bv (f_X6_measure_80 M12) fun M15 => z_bv (f_X2_clear_83 M15) fun M18 => z_bv (f_X4_begin_87_53 M18) fun M21 => z_bv (f_X0_clear_101 M21) fun M24 => z_bv (f_X1_drop_103 M24) fun M27 => some (.inl (0 : Int32), z_up M27 51 10 (0 : Int32))) = some ((.inl (0 : Int32) : Int32 ⊕ Nat), M1)) : z_fr w_scq Mc M1 := by
  obtain ⟨M12, c6, h⟩ := z_bv_c h
  have q6 : z_fr w_scq Mc M12 := ((z_fr.refl.up rfl).up rfl).sub (R_X5_takeFrom_53_66 c6) (by decide)
  obtain ⟨M15, c7, h⟩ := z_bv_c h
  have q7 : z_fr w_scq Mc M15 := q6.sub (R_X6_measure_80 c7) (by decide)
  obtain ⟨M18, c8, h⟩ := z_bv_c h
  have q8 : z_fr w_scq Mc M18 := q7.sub (R_X2_clear_83 c8) (by decide)
  obtain ⟨M21, c9, h⟩ := z_bv_c h
  have q9 : z_fr w_scq Mc M21 := q8.sub (R_X4_begin_87_53 c9) (by decide)
  obtain ⟨M24, c10, h⟩ := z_bv_c h
  have q10 : z_fr w_scq Mc M24 := q9.sub (R_X0_clear_101 c10) (by decide)
  obtain ⟨M27, c11, h⟩ := z_bv_c h
  have q11 : z_fr w_scq Mc M27 := q10.sub (R_X1_drop_103 c11) (by decide)
  cases h
  exact (q11.up rfl)
def SCq (w kk g p q : Nat) (C M1 : zMM) : Prop := (M1 53 0 = nI w ∧ M1 53 6 = nI kk ∧ M1 53 8 = nI g ∧ M1 53 11 = nI p ∧ M1 53 16 = nI q) ∧ (∀ i, i < 5 → M1 54 i = C 67 i ∧ M1 55 i = C 68 i ∧ M1 56 i = C 69 i ∧ M1 57 i = C 70 i) ∧ (∀ i, i < 25 → M1 58 i = C 71 i) ∧ (∀ i, i < 10 → M1 60 i = C 73 i ∧ M1 61 i = C 74 i) ∧ (∀ i, i < 4 → M1 62 i = C 75 i ∧ M1 63 i = C 76 i) ∧ (∀ i, i < 16 → M1 64 i = C 77 i) ∧ (∀ i, i < 400 → M1 65 i = C 78 i) ∧ cWq (Wq (D0q (Tcq C)) 5) M1 ∧ (∀ i, i < 640 → M1 84 i = -2) ∧ (∀ t, t < 5 → M1 88 t = (if t < kk then C 72 t else -1) ∧ M1 89 t = 0) ∧ M1 87 2 = 0 ∧ M1 87 3 = 0 ∧ M1 87 5 = 0 ∧ M1 101 2 = 0 ∧ M1 103 7 = 0 ∧ M1 51 1 = 0 ∧ M1 51 2 = -1 ∧ M1 51 10 = 0
def SMq (w kk g p q : Nat) (C D M2 : zMM) : Prop := (M2 109 0 = nI w ∧ M2 109 1 = nI kk ∧ M2 109 2 = nI g ∧ M2 109 3 = nI p ∧ M2 109 4 = nI q) ∧ (∀ i, i < 5 → M2 110 i = D 110 (5 + i) ∧ M2 111 i = D 111 (5 + i) ∧ M2 112 i = D 112 (5 + i) ∧ M2 113 i = D 113 (5 + i)) ∧ (∀ i, i < 25 → M2 114 i = D 114 (25 + i)) ∧ (∀ i, i < 11 → M2 116 i = D 116 (11 + i) ∧ M2 117 i = D 117 (11 + i)) ∧ (∀ i, i < 4 → M2 118 i = D 118 (4 + i) ∧ M2 120 i = D 120 (4 + i)) ∧ (∀ i, i < 16 → M2 119 i = D 119 (16 + i)) ∧ (∀ i, i < 400 → M2 121 i = D 121 (400 + i)) ∧ (∀ t, t < 5 → M2 124 t = (if t < kk then D 115 t else 0) ∧ M2 125 t = 0) ∧ mWq (Wq (D0q (Tcq C)) 5) M2 ∧ nWq (Tcq C) (Wq (D0q (Tcq C)) 5) 5 0 M2 ∧ M2 107 29 = 0 ∧ M2 107 33 = 0 ∧ M2 107 31 = 0 ∧ M2 107 32 = 0 ∧ M2 107 53 = 0 ∧ M2 107 54 = 0
theorem m_succ {u : Nat → Nat} {n e b t r w kk g p q : Nat} {C D Mc Mm : zMM} (h : GD u n e b t r C D Mc Mm) (hd : DR w kk g p q C D) : ∃ M2, f_X8_told_107_p159 Mm = some ((0 : Int32), M2) ∧ z_fr w_X8_take_107 Mm M2 ∧ SMq w kk g p q C D M2 := by
  have hD : ∀ a b, 109 ≤ a → a ≤ 121 → Mm a b = D a b := h.2.2.2.2
  have h24 := (GD_0 h).1
  obtain ⟨⟨w1, w2, w3⟩, ⟨k1, k2, k3⟩, ⟨g1, g2, g3⟩, ⟨p1, p2, p3⟩, ⟨q1, q1', q2, q3⟩, t1, t2, t3, t4, t5, t6⟩ := hd
  obtain ⟨c1, c2, c3⟩ := Tc_of t2
  obtain ⟨A, a0, ⟨a9, a5, a25, a11, a4, a16, a400⟩, a15⟩ : ∃ A, f_X8_take_107 Mm = f_X8_take_107_p86 z_fuel (0 : Int32) A ∧ ((A 109 0 = nI w ∧ A 109 1 = nI kk ∧ A 109 2 = nI g ∧ A 109 3 = nI p ∧ A 109 4 = nI q) ∧ (∀ i, i < 5 → A 110 i = D 110 (5 + i) ∧ A 111 i = D 111 (5 + i) ∧ A 112 i = D 112 (5 + i) ∧ A 113 i = D 113 (5 + i)) ∧ (∀ i, i < 25 → A 114 i = D 114 (25 + i)) ∧ (∀ i, i < 11 → A 116 i = D 116 (11 + i) ∧ A 117 i = D 117 (11 + i)) ∧ (∀ i, i < 4 → A 118 i = D 118 (4 + i) ∧ A 120 i = D 120 (4 + i)) ∧ (∀ i, i < 16 → A 119 i = D 119 (16 + i)) ∧ (∀ i, i < 400 → A 121 i = D 121 (400 + i))) ∧ (∀ i, A 115 i = D 115 i) := by
    refine ⟨z_th (z_th (z_th (z_th (z_th (z_th (z_th (z_th (z_th (z_th (z_th (z_th Mm 109 0 5) 110 0 5) 111 0 5) 112 0 5) 113 0 5) 114 0 25) 116 0 11) 117 0 11) 118 0 4) 119 0 16) 120 0 4) 121 0 400, rfl, ⟨⟨?_, ?_, ?_, ?_, ?_⟩, fun i hi => ⟨?_, ?_, ?_, ?_⟩, fun i hi => ?_, fun i hi => ⟨?_, ?_⟩, fun i hi => ⟨?_, ?_⟩, fun i hi => ?_, fun i hi => ?_⟩, fun i => ?_⟩
    · exact (hD 109 5 (by decide) (by decide)).trans w3
    · exact (hD 109 6 (by decide) (by decide)).trans k3
    · exact (hD 109 7 (by decide) (by decide)).trans g3
    · exact (hD 109 8 (by decide) (by decide)).trans p3
    · exact (hD 109 9 (by decide) (by decide)).trans q3
    · show (if 0 ≤ i ∧ i < 5 then Mm 110 (5 + i) else _) = _
      rw [if_pos ⟨Nat.zero_le i, hi⟩, hD _ _ (by decide) (by decide)]
    · show (if 0 ≤ i ∧ i < 5 then Mm 111 (5 + i) else _) = _
      rw [if_pos ⟨Nat.zero_le i, hi⟩, hD _ _ (by decide) (by decide)]
    · show (if 0 ≤ i ∧ i < 5 then Mm 112 (5 + i) else _) = _
      rw [if_pos ⟨Nat.zero_le i, hi⟩, hD _ _ (by decide) (by decide)]
    · show (if 0 ≤ i ∧ i < 5 then Mm 113 (5 + i) else _) = _
      rw [if_pos ⟨Nat.zero_le i, hi⟩, hD _ _ (by decide) (by decide)]
    · show (if 0 ≤ i ∧ i < 25 then Mm 114 (25 + i) else _) = _
      rw [if_pos ⟨Nat.zero_le i, hi⟩, hD _ _ (by decide) (by decide)]
    · show (if 0 ≤ i ∧ i < 11 then Mm 116 (11 + i) else _) = _
      rw [if_pos ⟨Nat.zero_le i, hi⟩, hD _ _ (by decide) (by decide)]
    · show (if 0 ≤ i ∧ i < 11 then Mm 117 (11 + i) else _) = _
      rw [if_pos ⟨Nat.zero_le i, hi⟩, hD _ _ (by decide) (by decide)]
    · show (if 0 ≤ i ∧ i < 4 then Mm 118 (4 + i) else _) = _
      rw [if_pos ⟨Nat.zero_le i, hi⟩, hD _ _ (by decide) (by decide)]
    · show (if 0 ≤ i ∧ i < 4 then Mm 120 (4 + i) else _) = _
      rw [if_pos ⟨Nat.zero_le i, hi⟩, hD _ _ (by decide) (by decide)]
    · show (if 0 ≤ i ∧ i < 16 then Mm 119 (16 + i) else _) = _
      rw [if_pos ⟨Nat.zero_le i, hi⟩, hD _ _ (by decide) (by decide)]
    · show (if 0 ≤ i ∧ i < 400 then Mm 121 (400 + i) else _) = _
      rw [if_pos ⟨Nat.zero_le i, hi⟩, hD _ _ (by decide) (by decide)]
    · exact hD 115 i (by decide) (by decide)
  obtain ⟨E, e1, e2, e3, -⟩ := m_begin 5 0 (by decide) z_fuel A kk (by decide) a9.2.1 k1
  have h14 : ∀ a, a < 5 → ∀ b, b < 5 → (z_up (z_up (z_up (z_up (z_up (z_up E 107 29 (0 : Int32)) 107 33 (0 : Int32)) 107 31 (0 : Int32)) 107 32 (0 : Int32)) 107 53 (0 : Int32)) 107 54 (0 : Int32)) 114 (5 * a + b) = nI (Tcq C a b) := by
    intro x hx y hy
    show E 114 (5 * x + y) = _
    rw [e2 114 _ (by decide) (by decide), a25 _ (by omega)]
    rcases c3 x hx y hy with ⟨x1, x2, x3⟩ | ⟨x1, x2, x3⟩
    · rw [x3, x1]; rfl
    · exact x3
  obtain ⟨M2, m1, m2, m3, m4⟩ := m_ways c1 c2 h14
  have eT : f_X8_take_107 Mm = some M2 := by
    rw [a0]
    refine Eq.trans (show f_X8_take_107_p86 z_fuel (0 : Int32) A = _ from e1) ?_
    rw [m1, z_bv_s]
  have rr : ∀ c d, c ≠ 107 → c ≠ 124 → c ≠ 125 → c ≠ 126 → c ≠ 127 → M2 c d = A c d := by
    intro c d x1 x2 x3 x4 x5
    rw [m4 c d x4 x5, z_up_o x1, z_up_o x1, z_up_o x1, z_up_o x1, z_up_o x1, z_up_o x1, e2 c d x2 x3]
  have r1 : ∀ d, M2 109 d = A 109 d := fun d => rr 109 d (by decide) (by decide) (by decide) (by decide) (by decide)
  refine ⟨M2, ?_, R_X8_take_107 eT, ⟨(r1 0).trans a9.1, (r1 1).trans a9.2.1, (r1 2).trans a9.2.2.1, (r1 3).trans a9.2.2.2.1, (r1 4).trans a9.2.2.2.2⟩, fun i hi => ?_, fun i hi => ?_, fun i hi => ?_, fun i hi => ?_, fun i hi => ?_, fun i hi => ?_, fun t' ht => ?_, m2, m3, m4 107 29 (by decide) (by decide), m4 107 33 (by decide) (by decide), m4 107 31 (by decide) (by decide), m4 107 32 (by decide) (by decide), m4 107 53 (by decide) (by decide), m4 107 54 (by decide) (by decide)⟩
  · unfold f_X8_told_107_p159
    rw [if_pos h24, eT, z_bv_s]
  · obtain ⟨x1, x2, x3, x4⟩ := a5 i hi
    exact ⟨(rr 110 i (by decide) (by decide) (by decide) (by decide) (by decide)).trans x1, (rr 111 i (by decide) (by decide) (by decide) (by decide) (by decide)).trans x2, (rr 112 i (by decide) (by decide) (by decide) (by decide) (by decide)).trans x3, (rr 113 i (by decide) (by decide) (by decide) (by decide) (by decide)).trans x4⟩
  · exact (rr 114 i (by decide) (by decide) (by decide) (by decide) (by decide)).trans (a25 i hi)
  · obtain ⟨x1, x2⟩ := a11 i hi
    exact ⟨(rr 116 i (by decide) (by decide) (by decide) (by decide) (by decide)).trans x1, (rr 117 i (by decide) (by decide) (by decide) (by decide) (by decide)).trans x2⟩
  · obtain ⟨x1, x2⟩ := a4 i hi
    exact ⟨(rr 118 i (by decide) (by decide) (by decide) (by decide) (by decide)).trans x1, (rr 120 i (by decide) (by decide) (by decide) (by decide) (by decide)).trans x2⟩
  · exact (rr 119 i (by decide) (by decide) (by decide) (by decide) (by decide)).trans (a16 i hi)
  · exact (rr 121 i (by decide) (by decide) (by decide) (by decide) (by decide)).trans (a400 i hi)
  · obtain ⟨x1, x2⟩ := e3 t' (by omega) ht
    refine ⟨(m4 124 t' (by decide) (by decide)).trans ?_, (m4 125 t' (by decide) (by decide)).trans x2⟩
    show E 124 t' = _
    rw [x1, a15]
