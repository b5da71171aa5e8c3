/-! ===== told: the lines ===== -/
def dTown (w : Nat) (C D : zMM) : Prop := ∀ i, i < w → ∃ a b c d : Nat, a ≤ 3 ∧ b ≤ 1000 ∧ c ≤ 9 ∧ d ≤ 99 ∧ (a = 0 → b = 0) ∧ C 67 i = nI a ∧ D 110 (5 + i) = nI a ∧ C 68 i = nI b ∧ D 111 (5 + i) = nI b ∧ C 69 i = nI c ∧ D 112 (5 + i) = nI c ∧ C 70 i = nI d ∧ D 113 (5 + i) = nI d
def dTrain (w : Nat) (C D : zMM) : Prop := ∀ i, i < 25 → (C 71 i = -1 ∧ D 114 (25 + i) = 0) ∨ ∃ d : Nat, 1 ≤ d ∧ d ≤ 9 ∧ C 71 i = nI d ∧ D 114 (25 + i) = nI d ∧ i / 5 < w ∧ i % 5 < w ∧ i / 5 ≠ i % 5
def dHome (w k : Nat) (C D : zMM) : Prop := ∀ i, i < k → ∃ h : Nat, h < w ∧ C 72 i = nI h ∧ D 115 i = nI h
def dThing (k g : Nat) (C D : zMM) : Prop := ∀ i, i < g → ∃ s h : Nat, s ≤ 19 ∧ h < k ∧ C 73 i = nI s ∧ D 116 (11 + i) = nI s ∧ C 74 i = nI h ∧ D 117 (11 + i) = nI h
def dPlay (p : Nat) (C D : zMM) : Prop := ∀ i, i < p → ∃ c m : Nat, 1 ≤ c ∧ c ≤ 20 ∧ 1 ≤ m ∧ m ≤ 4 ∧ C 75 i = nI c ∧ D 118 (4 + i) = nI c ∧ C 76 i = nI m ∧ D 120 (4 + i) = nI m ∧ ∀ j, j < m → ∃ s : Nat, s ≤ 19 ∧ C 77 (4 * i + j) = nI s ∧ D 119 (16 + 4 * i + j) = nI s
def dLike (C D : zMM) : Prop := ∀ a, a < 20 → ∀ b, b < 20 → (a = b ∧ C 78 (20 * a + b) = 0 ∧ D 121 (400 + 20 * a + b) = -1) ∨ (a ≠ b ∧ C 78 (20 * a + b) = -1 ∧ D 121 (400 + 20 * a + b) = -1) ∨ (a ≠ b ∧ ∃ s : Nat, s ≤ 99 ∧ C 78 (20 * a + b) = nI s ∧ D 121 (400 + 20 * a + b) = nI s)
def DR (w k g p q : Nat) (C D : zMM) : Prop := (w ≤ 5 ∧ C 66 0 = nI w ∧ D 109 5 = nI w) ∧ (k ≤ 5 ∧ C 66 6 = nI k ∧ D 109 6 = nI k) ∧ (g ≤ 10 ∧ C 66 8 = nI g ∧ D 109 7 = nI g) ∧ (p ≤ 4 ∧ C 66 11 = nI p ∧ D 109 8 = nI p) ∧ (1 ≤ q ∧ q ≤ 40 ∧ C 66 16 = nI q ∧ D 109 9 = nI q) ∧ dTown w C D ∧ dTrain w C D ∧ dHome w k C D ∧ dThing k g C D ∧ dPlay p C D ∧ dLike C D
def RSq (u : Nat → Nat) (n r0 : Nat) (rc : Option zMM) (rm : Option (Int32 × zMM)) (x : Int32) : Prop :=
  (∃ e b t r C D w k g p q Mc Mm, rc = some Mc ∧ rm = some (x, Mm) ∧ GD u n e b t r C D Mc Mm ∧ DR w k g p q C D ∧ r0 ≤ e ∧ Mc 79 8 = x) ∨
  (∃ f p v Mc Mm, rc = some Mc ∧ rm = some (v, Mm) ∧ CJ u n f p Mc ∧ MJ f p Mm)
theorem MJ_bad {u : Nat → Nat} {n : Nat} {f p : Int32} {Mc Mm : zMM} (h : CJ u n f p Mc) (h2 : MJ f p Mm) : ¬ Mm 107 24 = 0 := by
  obtain ⟨-, -, -, -, hf, -, -⟩ := h
  rw [h2.1]; exact hf
theorem T_trunk {u : Nat → Nat} {n e b t r w k g p q : Nat} {C D Mc Mm : zMM} {x : Int32} (h : GD u n e b t r C D Mc Mm) (hd : DR w k g p q C D) (hx : z_zb x = true) (hfl : Mc 79 8 = x) : RSq u n r (f_X3_readTrunk_79 Mc) (z_bi (f_X8_begin_107 (1 : Int32) (5 : Int32) Mm) fun v76 M77 =>
        if v76 = 0 then
          f_X8_readLine_107_p187 x M77
        else
          z_bi (f_X8_readOne_107 (0 : Int32) M77) fun v80 M81 =>
          if z_ib (M77 109 6) 5 = true then
            f_X8_readLine_107_p187 x (z_up (z_up M81 115 (M77 109 6).toNatClampNeg v80) 109 6 ((M81 109 6) + (1 : Int32)))
          else none) x := by
  obtain ⟨⟨w1, w2, w3⟩, ⟨k1, k2, k3⟩, hg, hp, hq, t1, t2, t3, t4, t5, t6⟩ := hd
  have hle := (GD_0 h).2.2.2.2.2.2.2.1
  rcases G_head (x := 1) (j := 6) (most := 5) h (by decide) k2 k3 (by decide) k1 with ⟨b1, tt1, r1, Ac, Am, a0, a1, a2, a3⟩ | ⟨f, pp, Ac, Am, a1, a2, a3⟩
  · have a1 : f_X3_takeHead_79 (Mc 66 6) (5 : Int32) Mc = some Ac := a1
    have a2 : f_X8_begin_107 (1 : Int32) (5 : Int32) Mm = some ((1 : Int32), Am) := a2
    have hle1 := (GD_0 a3).2.2.2.2.2
    rw [a2, z_bi_s, if_neg (by decide)]
    have eA : Am 109 6 = nI k := (a3.2.2.2.2 109 6 (by decide) (by decide)).trans k3
    rw [eA, show z_ib (nI k) 5 = true from z_ib_n (by decide) a0, nI_clamp (by omega)]
    rcases G_one (x := 0) (j := 0) a3 (by decide) w2 w3 (by omega) with ⟨v, b2, tt2, r2, Bc, Bm, d0, d1, d2, d3, d4⟩ | ⟨f, pp, v, Bc, Bc2, Bm, d1, d2, d3, d4⟩
    · have d3 : f_X8_readOne_107 (0 : Int32) Am = some (nI v, Bm) := d3
      have hle2 := (GD_0 d4).2.2.2.2.2
      have eB : Bm 109 6 = nI k := (d4.2.2.2.2 109 6 (by decide) (by decide)).trans k3
      rw [d3, z_bi_s, if_pos rfl, eB, nI_1]
      rcases G_end (x := x) (GD_mu (a := 109) (i := 6) (v := nI (k + 1)) (GD_mu (a := 115) (i := k) (v := nI v) d4 (by decide)) (by decide)) hx with ⟨b3, tt3, r3, Ec, Em, e1, e2, e3⟩ | ⟨f, pp, Ec, Em, e1, e2, e3⟩
      · left
        have eC : Ec 66 6 = nI k := (e3.2.2.2.1 66 6 (by decide) (by decide)).trans k2
        have rcx : f_X3_readTrunk_79 Mc = some (z_up (z_up Ec 72 k (nI v)) 66 6 (nI (k + 1))) := by
          unfold f_X3_readTrunk_79
          rw [a1, z_bv_s, d1, z_bi_s, d2, z_bv_s, e1, z_bi_s, if_neg (by decide), eC, z_pt_nI (by decide) a0, z_bv_s, show z_up Ec 72 k (nI v) 66 6 = nI k from eC, nI_1]
        refine ⟨_, _, _, _, _, _, w, k + 1, g, p, q, _, _, rcx, e2, GD_cu (GD_cu e3 (by decide)) (by decide), ?_, by omega, (R_X3_readTrunk_79 rcx 79 8 rfl).trans hfl⟩
        refine ⟨⟨w1, w2, w3⟩, ⟨by omega, rfl, rfl⟩, hg, hp, hq, t1, t2, ?_, ?_, t5, t6⟩
        · intro i hi
          by_cases hik : i = k
          · exact ⟨v, d0, by simp [z_up, hik], by simp [z_up, hik]⟩
          · obtain ⟨y, y1, y2, y3⟩ := t3 i (by omega)
            exact ⟨y, y1, by simp [z_up, hik, y2], by simp [z_up, hik, y3]⟩
        · intro i hi
          obtain ⟨s, y, y1, y2, y3⟩ := t4 i hi
          exact ⟨s, y, y1, by omega, y3⟩
      · right
        refine ⟨f, pp, x, Ec, Em, ?_, e2, e3.1, e3.2.1⟩
        unfold f_X3_readTrunk_79
        rw [a1, z_bv_s, d1, z_bi_s, d2, z_bv_s, e1, z_bi_s, if_pos rfl]
    · right
      have d3 : f_X8_readOne_107 (0 : Int32) Am = some ((0 : Int32), Bm) := d3
      obtain ⟨E, j1, j2⟩ := J_end d4.1
      rw [d3, z_bi_s, if_pos rfl]
      have hb := BJ_bad d4
      refine ⟨f, pp, x, E, _, ?_, B_end (M := z_up (z_up Bm 115 k (0 : Int32)) 109 6 (Bm 109 6 + 1)) hb hx, j2, d4.2.1⟩
      unfold f_X3_readTrunk_79
      rw [a1, z_bv_s, d1, z_bi_s, d2, z_bv_s, j1, z_bi_s, if_pos rfl]
  · right
    have a1 : f_X3_takeHead_79 (Mc 66 6) (5 : Int32) Mc = some Ac := a1
    have a2 : f_X8_begin_107 (1 : Int32) (5 : Int32) Mm = some ((0 : Int32), Am) := a2
    rw [a2, z_bi_s, if_pos rfl]
    obtain ⟨v, A, j1, j2⟩ := J_num (x := 0) (y := 9999) a3.1
    obtain ⟨E, j3, j4⟩ := J_end j2
    refine ⟨f, pp, x, E, Am, ?_, B_end (BJ_bad a3) hx, j4, a3.2.1⟩
    unfold f_X3_readTrunk_79
    rw [a1, z_bv_s, j1, z_bi_s, J_told j2, z_bv_s, j3, z_bi_s, if_pos rfl]
theorem T_thing {u : Nat → Nat} {n e b t r w k g p q : Nat} {C D Mc Mm : zMM} {x : Int32} (h : GD u n e b t r C D Mc Mm) (hd : DR w k g p q C D) (hx : z_zb x = true) (hfl : Mc 79 8 = x) : RSq u n r (f_X3_readThing_79 Mc) (z_bv (f_X8_readThing_107 Mm) fun M => f_X8_readLine_107_p187 x M) x := by
  obtain ⟨hw, ⟨k1, k2, k3⟩, ⟨g1, g2, g3⟩, hp, hq, t1, t2, t3, t4, t5, t6⟩ := hd
  have hle := (GD_0 h).2.2.2.2.2.2.2.1
  have e11 : (11 : Int32) + nI g = nI (11 + g) := nI_add 11 g
  rcases G_head (x := 2) (j := 8) (most := 10) h (by decide) g2 g3 (by decide) g1 with ⟨b1, tt1, r1, Ac, Am, a0, a1, a2, a3⟩ | ⟨f, pp, Ac, Am, a1, a2, a3⟩
  · have a1 : f_X3_takeHead_79 (Mc 66 8) (10 : Int32) Mc = some Ac := a1
    have a2 : f_X8_begin_107 (2 : Int32) (10 : Int32) Mm = some ((1 : Int32), Am) := a2
    have hle1 := (GD_0 a3).2.2.2.2.2
    have eA : Am 109 7 = nI g := (a3.2.2.2.2 109 7 (by decide) (by decide)).trans g3
    unfold f_X8_readThing_107
    rw [a2, z_bi_s, if_neg (by decide), eA, e11, show z_ib (nI (11 + g)) 22 = true from z_ib_n (by decide) (by omega), nI_clamp (by omega)]
    rcases G_num (lo := 0) (hi := 19) a3 (by decide) (by decide) with ⟨s, b2, tt2, r2, Bc, Bm, s1, s2, s3, s4, s5⟩ | ⟨f, pp, Bc, Bm, s1, s2, s3⟩
    · have s3 : f_X3_takeNumber_79 (0 : Int32) (19 : Int32) Ac = some (nI s, Bc) := s3
      have s4 : f_X8_readNumber_107 (0 : Int32) (19 : Int32) Am = some (nI s, Bm) := s4
      have hle2 := (GD_0 s5).2.2.2.2.2
      rw [s4, z_bi_s, if_pos rfl]
      rcases G_one (x := 1) (j := 6) (GD_mu (a := 116) (i := 11 + g) (v := nI s) s5 (by decide)) (by decide) k2 k3 (by omega) with ⟨v, b3, tt3, r3, Xc, Xm, d0, d1, d2, d3, d4⟩ | ⟨f, pp, v, Xc, Xc2, Xm, d1, d2, d3, d4⟩
      · have d3 : f_X8_readOne_107 (1 : Int32) (z_up Bm 116 (11 + g) (nI s)) = some (nI v, Xm) := d3
        have hle3 := (GD_0 d4).2.2.2.2.2
        have eB : Xm 109 7 = nI g := (d4.2.2.2.2 109 7 (by decide) (by decide)).trans g3
        rw [d3, z_bi_s, if_pos rfl, z_bv_s, eB, nI_1]
        rcases G_end (x := x) (GD_mu (a := 109) (i := 7) (v := nI (g + 1)) (GD_mu (a := 117) (i := 11 + g) (v := nI v) d4 (by decide)) (by decide)) hx with ⟨b4, tt4, r4, Ec, Em, e1, e2, e3⟩ | ⟨f, pp, Ec, Em, e1, e2, e3⟩
        · left
          have eC : Ec 66 8 = nI g := (e3.2.2.2.1 66 8 (by decide) (by decide)).trans g2
          have rcx : f_X3_readThing_79 Mc = some (z_up (z_up (z_up Ec 73 g (nI s)) 74 g (nI v)) 66 8 (nI (g + 1))) := by
            unfold f_X3_readThing_79
            rw [a1, z_bv_s, s3, z_bi_s, d1, z_bi_s, d2, z_bv_s, e1, z_bi_s, if_neg (by decide), eC, z_pt_nI (by decide) a0, z_bv_s, show z_up Ec 73 g (nI s) 66 8 = nI g from eC, z_pt_nI (by decide) a0, z_bv_s, show z_up (z_up Ec 73 g (nI s)) 74 g (nI v) 66 8 = nI g from eC, nI_1]
          refine ⟨_, _, _, _, _, _, w, k, g + 1, p, q, _, _, rcx, e2, GD_cu (GD_cu (GD_cu e3 (by decide)) (by decide)) (by decide), ?_, by omega, (R_X3_readThing_79 rcx 79 8 rfl).trans hfl⟩
          refine ⟨hw, ⟨k1, k2, k3⟩, ⟨by omega, rfl, rfl⟩, hp, hq, t1, t2, t3, ?_, t5, t6⟩
          intro i hi
          by_cases hik : i = g
          · exact ⟨s, v, by omega, d0, by simp [z_up, hik], by simp [z_up, hik], by simp [z_up, hik], by simp [z_up, hik]⟩
          · obtain ⟨y, y', y1, y2, y3, y4, y5, y6⟩ := t4 i (by omega)
            exact ⟨y, y', y1, y2, by simp [z_up, hik, y3], by simp [z_up, hik, y4], by simp [z_up, hik, y5], by simp [z_up, hik, y6]⟩
        · right
          refine ⟨f, pp, x, Ec, Em, ?_, e2, e3.1, e3.2.1⟩
          unfold f_X3_readThing_79
          rw [a1, z_bv_s, s3, z_bi_s, d1, z_bi_s, d2, z_bv_s, e1, z_bi_s, if_pos rfl]
      · right
        have d3 : f_X8_readOne_107 (1 : Int32) (z_up Bm 116 (11 + g) (nI s)) = some ((0 : Int32), Xm) := d3
        obtain ⟨E, j1, j2⟩ := J_end d4.1
        rw [d3, z_bi_s, if_pos rfl, z_bv_s]
        have hb := BJ_bad d4
        refine ⟨f, pp, x, E, _, ?_, B_end (M := z_up (z_up Xm 117 (11 + g) (0 : Int32)) 109 7 (Xm 109 7 + 1)) hb hx, j2, d4.2.1⟩
        unfold f_X3_readThing_79
        rw [a1, z_bv_s, s3, z_bi_s, d1, z_bi_s, d2, z_bv_s, j1, z_bi_s, if_pos rfl]
    · right
      have s1 : f_X3_takeNumber_79 (0 : Int32) (19 : Int32) Ac = some (-1, Bc) := s1
      have s2 : f_X8_readNumber_107 (0 : Int32) (19 : Int32) Am = some ((0 : Int32), Bm) := s2
      obtain ⟨v, A, j1, j2⟩ := J_num (x := 0) (y := 9999) s3.1
      obtain ⟨E, j3, j4⟩ := J_end j2
      have hb := BJ_bad s3
      rw [s2, z_bi_s, if_pos rfl, (N_bad_one (M := z_up Bm 116 (11 + g) (0 : Int32)) hb).2, z_bi_s, if_pos rfl, z_bv_s]
      refine ⟨f, pp, x, E, _, ?_, B_end (M := z_up (z_up (z_up Bm 116 (11 + g) (0 : Int32)) 117 (11 + g) (0 : Int32)) 109 7 (z_up Bm 116 (11 + g) (0 : Int32) 109 7 + 1)) hb hx, j4, s3.2.1⟩
      unfold f_X3_readThing_79
      rw [a1, z_bv_s, s1, z_bi_s, j1, z_bi_s, J_told j2, z_bv_s, j3, z_bi_s, if_pos rfl]
  · right
    have a1 : f_X3_takeHead_79 (Mc 66 8) (10 : Int32) Mc = some Ac := a1
    have a2 : f_X8_begin_107 (2 : Int32) (10 : Int32) Mm = some ((0 : Int32), Am) := a2
    unfold f_X8_readThing_107
    rw [a2, z_bi_s, if_pos rfl, z_bv_s]
    obtain ⟨v0, A0, i1, i2⟩ := J_num (x := 0) (y := 19) a3.1
    obtain ⟨v, A, j1, j2⟩ := J_num (x := 0) (y := 9999) i2
    obtain ⟨E, j3, j4⟩ := J_end j2
    refine ⟨f, pp, x, E, Am, ?_, B_end (BJ_bad a3) hx, j4, a3.2.1⟩
    unfold f_X3_readThing_79
    rw [a1, z_bv_s, i1, z_bi_s, j1, z_bi_s, J_told j2, z_bv_s, j3, z_bi_s, if_pos rfl]
