/-! ===== told: the town's clerk, the play, any line ===== -/
theorem wp_ex {u : Nat → Nat} {b t r s s' : Nat} (h : z_sn s ≠ z_sn s' ∨ (0 < z_sn s ∧ 0 < z_sn s' ∧ wcq s 0 ≠ wcq s' 0)) (h1 : wpq u b t r s) : ¬ wpq u b t r s' := by
  intro h2
  rcases h with h | ⟨ha, hb, hc⟩
  · have e1 := h1.2.1
    have e2 := h2.2.1
    omega
  · exact hc ((h1.2.2 0 ha).symm.trans (h2.2.2 0 hb))
theorem G_kind {u : Nat → Nat} {n e b t r : Nat} {C D Mc Mm : zMM} {x1 : Int32} (h : GD u n e b t r C D Mc Mm) :
    (∃ κ b' t' r' Mc' Mm', κ ≤ 3 ∧ f_X3_takeKind_79 Mc = some (nI κ, Mc') ∧ f_X8_readTown_107_p23 z_fuel x1 (-1) 0 Mm = f_X8_readTown_107_p74 x1 (nI κ) Mm' ∧ GD u n r b' t' r' C D Mc' Mm') ∨
    (∃ f p Mc' Mm', f_X3_takeKind_79 Mc = some (-1, Mc') ∧ f_X8_readTown_107_p23 z_fuel x1 (-1) 0 Mm = f_X8_readTown_107_p74 x1 (-1) Mm' ∧ BJ u n f p D Mc' Mm') := by
  obtain ⟨b1, tt1, r1, Ac, Am, a1, a2, a3⟩ := G_step h
  obtain ⟨z0, z22, z4, -⟩ := GD_0 h
  have st : ∀ m x2 i, i < 4 → ∀ v, f_X8_is_107 (z_kd (nI i)) Mm = some (v, Mm) → f_X8_readTown_107_p23 (m + 1) x1 x2 (nI i) Mm = f_X8_readTown_107_p23 m x1 (if v = 0 then x2 else nI i) (nI (i + 1)) Mm := by
    intro m x2 i hi v hv
    show (if (4 : Int32) ≤ nI i then _ else _) = _
    rw [if_neg (show ¬ (4 : Int32) ≤ nI i from nI_ge (b := 4) hi (by decide)), if_pos (z_ib_n (by decide) hi), hv, z_bi_s, nI_1]
    split <;> rfl
  have en : ∀ m x2, f_X8_readTown_107_p23 (m + 1) x1 x2 (nI 4) Mm = if x2 = (-1 : Int32) then z_bv (f_X8_wrong_107 (1 : Int32) Mm) fun M9 => f_X8_readTown_107_p63 x1 x2 M9 else f_X8_readTown_107_p63 x1 x2 Mm := by
    intro m x2
    show (if (4 : Int32) ≤ nI 4 then _ else _) = _
    rw [if_pos (by decide)]
  have p63 : ∀ x2, f_X8_readTown_107_p63 x1 x2 Mm = f_X8_readTown_107_p74 x1 x2 Am := by
    intro x2
    unfold f_X8_readTown_107_p63
    rw [if_pos z0, a2, z_bv_s]
  have all : ∀ v0 v1 v2 v3 : Int32, f_X8_is_107 15 Mm = some (v0, Mm) → f_X8_is_107 16 Mm = some (v1, Mm) → f_X8_is_107 17 Mm = some (v2, Mm) → f_X8_is_107 18 Mm = some (v3, Mm) → f_X8_readTown_107_p23 z_fuel x1 (-1) 0 Mm = f_X8_readTown_107_p23 99996 x1 (if v3 = 0 then (if v2 = 0 then (if v1 = 0 then (if v0 = 0 then -1 else nI 0) else nI 1) else nI 2) else nI 3) (nI 4) Mm := by
    intro v0 v1 v2 v3 h0 h1 h2 h3
    show f_X8_readTown_107_p23 (99999 + 1) x1 (-1) (nI 0) Mm = _
    rw [st 99999 _ 0 (by decide) v0 h0]
    show f_X8_readTown_107_p23 (99998 + 1) x1 _ (nI 1) Mm = _
    rw [st 99998 _ 1 (by decide) v1 h1]
    show f_X8_readTown_107_p23 (99997 + 1) x1 _ (nI 2) Mm = _
    rw [st 99997 _ 2 (by decide) v2 h2]
    show f_X8_readTown_107_p23 (99996 + 1) x1 _ (nI 3) Mm = _
    rw [st 99996 _ 3 (by decide) v3 h3]
  obtain ⟨-, -, -, -, -, -, -, -, w4, w5, w6, w7⟩ := wsq_all
  have x45 := wp_ex (u := u) (b := b) (t := t) (r := r) (s := 4) (s' := 5) (by decide +kernel)
  have x46 := wp_ex (u := u) (b := b) (t := t) (r := r) (s := 4) (s' := 6) (by decide +kernel)
  have x47 := wp_ex (u := u) (b := b) (t := t) (r := r) (s := 4) (s' := 7) (by decide +kernel)
  have x56 := wp_ex (u := u) (b := b) (t := t) (r := r) (s := 5) (s' := 6) (by decide +kernel)
  have x57 := wp_ex (u := u) (b := b) (t := t) (r := r) (s := 5) (s' := 7) (by decide +kernel)
  have x67 := wp_ex (u := u) (b := b) (t := t) (r := r) (s := 6) (s' := 7) (by decide +kernel)
  have fin : ∀ κ, κ ≤ 3 → f_X8_readTown_107_p23 (99995 + 1) x1 (nI κ) (nI 4) Mm = f_X8_readTown_107_p74 x1 (nI κ) Am := by
    intro κ hκ
    rw [en, if_neg (nI_m1 (by omega)), p63]
  unfold f_X3_takeKind_79
  rcases G_word h w4 with ⟨c4, e4, m4⟩ | ⟨c4, e4, m4⟩
  · rcases G_word h w5 with ⟨c5, -, -⟩ | ⟨c5, e5, m5⟩
    · exact absurd c5 (x45 c4)
    rcases G_word h w6 with ⟨c6, -, -⟩ | ⟨c6, e6, m6⟩
    · exact absurd c6 (x46 c4)
    rcases G_word h w7 with ⟨c7, -, -⟩ | ⟨c7, e7, m7⟩
    · exact absurd c7 (x47 c4)
    left
    rw [all _ _ _ _ m4 m5 m6 m7, e4, z_bi_s, if_neg (show ¬ (1 : Int32) = 0 by decide), a1, z_bv_s]
    exact ⟨0, b1, tt1, r1, Ac, Am, by decide, rfl, fin 0 (by decide), a3⟩
  · rw [e4, z_bi_s, if_pos rfl]
    rcases G_word h w5 with ⟨c5, e5, m5⟩ | ⟨c5, e5, m5⟩
    · rcases G_word h w6 with ⟨c6, -, -⟩ | ⟨c6, e6, m6⟩
      · exact absurd c6 (x56 c5)
      rcases G_word h w7 with ⟨c7, -, -⟩ | ⟨c7, e7, m7⟩
      · exact absurd c7 (x57 c5)
      left
      rw [all _ _ _ _ m4 m5 m6 m7, e5, z_bi_s, if_neg (show ¬ (1 : Int32) = 0 by decide), a1, z_bv_s]
      exact ⟨1, b1, tt1, r1, Ac, Am, by decide, rfl, fin 1 (by decide), a3⟩
    · rw [e5, z_bi_s, if_pos rfl]
      rcases G_word h w6 with ⟨c6, e6, m6⟩ | ⟨c6, e6, m6⟩
      · rcases G_word h w7 with ⟨c7, -, -⟩ | ⟨c7, e7, m7⟩
        · exact absurd c7 (x67 c6)
        left
        rw [all _ _ _ _ m4 m5 m6 m7, e6, z_bi_s, if_neg (show ¬ (1 : Int32) = 0 by decide), a1, z_bv_s]
        exact ⟨2, b1, tt1, r1, Ac, Am, by decide, rfl, fin 2 (by decide), a3⟩
      · rw [e6, z_bi_s, if_pos rfl]
        rcases G_word h w7 with ⟨c7, e7, m7⟩ | ⟨c7, e7, m7⟩
        · left
          rw [all _ _ _ _ m4 m5 m6 m7, e7, z_bi_s, if_neg (show ¬ (1 : Int32) = 0 by decide), a1, z_bv_s]
          exact ⟨3, b1, tt1, r1, Ac, Am, by decide, rfl, fin 3 (by decide), a3⟩
        · right
          obtain ⟨q1, q2⟩ := G_fail (f := 1) (p := nI b) h (by decide)
          obtain ⟨y1, y2, y3⟩ := G_wrong (f := 1) h.2.2.2.2 z0 z22
          obtain ⟨S, s1, s2⟩ := J_step q2
          rw [all _ _ _ _ m4 m5 m6 m7, e7, z_bi_s, if_pos rfl, z4, q1, z_bv_s, s1, z_bv_s]
          refine ⟨1, nI b, S, _, rfl, ?_, s2, y2, y3⟩
          show f_X8_readTown_107_p23 (99995 + 1) x1 (-1) (nI 4) Mm = _
          rw [en, if_pos rfl, y1, z_bv_s]
          unfold f_X8_readTown_107_p63
          rw [if_neg (MJ_bad q2 y2)]
theorem J_kind {u : Nat → Nat} {n : Nat} {f p : Int32} {M : zMM} (h : CJ u n f p M) : ∃ v M', f_X3_takeKind_79 M = some (v, M') ∧ CJ u n f p M' := by
  obtain ⟨v4, h4⟩ := J_word (s := 4) (by decide) (M := M)
  obtain ⟨v5, h5⟩ := J_word (s := 5) (by decide) (M := M)
  obtain ⟨v6, h6⟩ := J_word (s := 6) (by decide) (M := M)
  obtain ⟨v7, h7⟩ := J_word (s := 7) (by decide) (M := M)
  obtain ⟨S, s1, s2⟩ := J_step h
  unfold f_X3_takeKind_79
  rw [h4, z_bi_s, h5, z_bi_s, h6, z_bi_s, h7, z_bi_s, J_fail h, z_bv_s, s1, z_bv_s]
  split
  · split
    · split
      · split
        · exact ⟨_, _, rfl, s2⟩
        · exact ⟨_, _, rfl, s2⟩
      · exact ⟨_, _, rfl, s2⟩
    · exact ⟨_, _, rfl, s2⟩
  · exact ⟨_, _, rfl, s2⟩
theorem T_town {u : Nat → Nat} {n e b t r w k g p q : Nat} {C D Mc Mm : zMM} {x : Int32} (h : GD u n e b t r C D Mc Mm) (hd : DR w k g p q C D) (hx : z_zb x = true) (hfl : Mc 79 8 = x) : RSq u n r (f_X3_readTown_79 Mc) (z_bv (f_X8_readTown_107 Mm) fun M => f_X8_readLine_107_p187 x M) x := by
  obtain ⟨w1, w2, w3⟩ := hd.1
  unfold f_X3_readTown_79 f_X8_readTown_107
  rcases G_head (x := 0) (j := 0) (most := 5) h (by decide) w2 w3 (by decide) w1 with ⟨b1, tt1, r1, Ac, Am, a0, a1, a2, a3⟩ | ⟨f, pp, Ac, Am, a1, a2, a3⟩
  · have a1 : f_X3_takeHead_79 (Mc 66 0) (5 : Int32) Mc = some Ac := a1
    have a2 : f_X8_begin_107 (0 : Int32) (5 : Int32) Mm = some ((1 : Int32), Am) := a2
    have hle1 := (GD_0 a3).2.2.2.2.2
    have fA : Ac 79 8 = x := (R_X3_takeHead_79 a1 79 8 rfl).trans hfl
    have eA : Am 109 5 = nI w := (a3.2.2.2.2 109 5 (by decide) (by decide)).trans w3
    rw [a1, z_bv_s, a2, z_bi_s, if_neg (show ¬ (1 : Int32) = 0 by decide), eA, show (5 : Int32) + nI w = nI (5 + w) from nI_add 5 w]
    rcases G_kind (x1 := nI (5 + w)) a3 with ⟨κ, b2, tt2, r2, Bc, Bm, s1, s2, s3, s4⟩ | ⟨f, pp, Bc, Bm, s1, s2, s3⟩
    · have hle2 := (GD_0 s4).2.2.2.2.2
      have fB : Bc 79 8 = x := (R_X3_takeKind_79 s2 79 8 rfl).trans fA
      rw [s2, z_bi_s, s3]
      unfold f_X8_readTown_107_p74
      rw [if_pos (z_ib_n (by decide) (by omega)), nI_clamp (by omega)]
      have s4' := GD_mu (a := 110) (i := 5 + w) (v := nI κ) s4 (by decide)
      by_cases hκ : κ = 0
      · rw [if_pos (show nI κ = (0 : Int32) by rw [hκ]; rfl), if_pos (show nI κ = (0 : Int32) by rw [hκ]; rfl)]
        exact RSq_le (T_102 (a2 := 0) hd a0 s1 (by omega) (fun _ => rfl) s4' hx fB) (by omega)
      · rw [if_neg (show ¬ nI κ = (0 : Int32) from fun z => hκ ((nI_eq (b := 0) (by omega) (by decide)).mp z)), if_neg (show ¬ nI κ = (0 : Int32) from fun z => hκ ((nI_eq (b := 0) (by omega) (by decide)).mp z))]
        rcases G_num (lo := 0) (hi := 1000) s4' (by decide) (by decide) with ⟨c, b3, tt3, r3, Xc, Xm, d1, d2, d3, d4, d5⟩ | ⟨f, pp, Xc, Xm, d1, d2, d3⟩
        · have d3 : f_X3_takeNumber_79 (0 : Int32) (1000 : Int32) Bc = some (nI c, Xc) := d3
          have d4 : f_X8_readNumber_107 (0 : Int32) (1000 : Int32) (z_up Bm 110 (5 + w) (nI κ)) = some (nI c, Xm) := d4
          have fX : Xc 79 8 = x := (R_X3_takeNumber_79 d3 79 8 rfl).trans fB
          rw [d3, z_bi_s, d4, z_bi_s]
          exact RSq_le (T_102 hd a0 s1 d2 (fun z => absurd z hκ) d5 hx fX) (by omega)
        · right
          have d1 : f_X3_takeNumber_79 (0 : Int32) (1000 : Int32) Bc = some (-1, Xc) := d1
          have d2 : f_X8_readNumber_107 (0 : Int32) (1000 : Int32) (z_up Bm 110 (5 + w) (nI κ)) = some ((0 : Int32), Xm) := d2
          obtain ⟨E, j1, j2⟩ := J_t33 (a := nI κ) (b := -1) d3.1
          obtain ⟨F, f1, f2⟩ := N_t102 (a := 0) (j := 5 + w) d3.2.1 (BJ_bad d3) (by omega)
          rw [d1, z_bi_s, d2, z_bi_s, f1, z_bv_s]
          exact ⟨f, pp, x, E, F, j1, B_end (MJ_bad d3.1 f2) hx, j2, f2⟩
    · right
      obtain ⟨F, f1, f2⟩ := N_t74 (a := -1) (j := 5 + w) s3.2.1 (BJ_bad s3) (by omega)
      obtain ⟨v, A, i1, i2⟩ := J_num (x := 0) (y := 1000) s3.1
      obtain ⟨E, j1, j2⟩ := J_t33 (a := -1) (b := v) i2
      rw [s1, z_bi_s, if_neg (by decide), i1, z_bi_s, s2, f1, z_bv_s]
      exact ⟨f, pp, x, E, F, j1, B_end (MJ_bad s3.1 f2) hx, j2, f2⟩
  · right
    have a1 : f_X3_takeHead_79 (Mc 66 0) (5 : Int32) Mc = some Ac := a1
    have a2 : f_X8_begin_107 (0 : Int32) (5 : Int32) Mm = some ((0 : Int32), Am) := a2
    obtain ⟨κ, A, i1, i2⟩ := J_kind a3.1
    obtain ⟨E1, j1, j2⟩ := J_t33 (a := κ) (b := 0) i2
    obtain ⟨v, A2, i3, i4⟩ := J_num (x := 0) (y := 1000) i2
    obtain ⟨E2, j3, j4⟩ := J_t33 (a := κ) (b := v) i4
    rw [a1, z_bv_s, a2, z_bi_s, if_pos rfl, z_bv_s, i1, z_bi_s, i3, z_bi_s, j1, j3]
    by_cases hκ : κ = 0
    · rw [if_pos hκ]
      exact ⟨f, pp, x, E1, Am, rfl, B_end (BJ_bad a3) hx, j2, a3.2.1⟩
    · rw [if_neg hκ]
      exact ⟨f, pp, x, E2, Am, rfl, B_end (BJ_bad a3) hx, j4, a3.2.1⟩
/-! play -/
theorem J_pt77 {u : Nat → Nat} {n : Nat} {f p i v : Int32} {M : zMM} (h : CJ u n f p M) : CJ u n f p (z_pt M 77 16 i v) := by
  unfold z_pt
  split
  · exact h
  · split
    · exact h
    · exact h
theorem J_p83 {u : Nat → Nat} {n : Nat} {f p a c : Int32} {M : zMM} (h : CJ u n f p M) : ∃ M', f_X3_readPlay_79_p83 a c M = some M' ∧ f_X3_readPlay_79_p66 a c M = some M' ∧ CJ u n f p M' := by
  obtain ⟨E, j3, j4⟩ := J_end h
  have e : f_X3_readPlay_79_p83 a c M = some E := by
    unfold f_X3_readPlay_79_p83
    rw [j3, z_bi_s, if_pos rfl]
  refine ⟨E, e, ?_, j4⟩
  unfold f_X3_readPlay_79_p66
  rw [J_fail h, z_bv_s, e]
  split <;> rfl
theorem J_p22 {u : Nat → Nat} {n : Nat} {f p : Int32} : ∀ k m, m + k = 4 → 0 < k → ∀ fu a M, k ≤ fu → CJ u n f p M → ∃ M', f_X3_readPlay_79_p22 fu a (nI m) M = some M' ∧ CJ u n f p M' := by
  intro k
  induction k with
  | zero => intro m _ h; exact absurd h (by decide)
  | succ k ih =>
    intro m hm _ fu a M hfu h
    obtain ⟨fu, rfl⟩ : ∃ x, fu = x + 1 := ⟨fu - 1, by omega⟩
    unfold f_X3_readPlay_79_p22
    obtain ⟨v, A, j1, j2⟩ := J_num (x := 0) (y := 19) h
    rw [j1, z_bi_s, z_bv_s, nI_1]
    have j3 : CJ u n f p (z_pt A 77 16 (((M 66 11) * (4 : Int32)) + nI m) v) := J_pt77 j2
    obtain ⟨E, e1, e2, e3⟩ := J_p83 (a := a) (c := nI (m + 1)) j3
    rw [e2]
    by_cases h4 : (4 : Int32) ≤ nI (m + 1)
    · rw [if_pos h4]; exact ⟨E, rfl, e3⟩
    · rw [if_neg h4]
      split
      · have : m + 1 < 4 := by
          apply Nat.not_le.mp
          intro z
          exact h4 (nI_le (a := 4) z (by omega))
        exact ih (m + 1) (by omega) (by omega) fu a _ (by omega) j3
      · exact ⟨E, rfl, e3⟩
def PLq (p c m : Nat) (C D : zMM) : Prop := 1 ≤ c ∧ c ≤ 20 ∧ D 118 (4 + p) = nI c ∧ D 120 (4 + p) = nI m ∧ ∀ j, j < m → ∃ s : Nat, s ≤ 19 ∧ C 77 (4 * p + j) = nI s ∧ D 119 (16 + 4 * p + j) = nI s
theorem T_83 {u : Nat → Nat} {n e b t r w k g p q c m : Nat} {C D Mc Mm : zMM} {x : Int32} (h : GD u n e b t r C D Mc Mm) (hd : DR w k g p q C D) (hp4 : p < 4) (hm : 1 ≤ m ∧ m ≤ 4) (hpl : PLq p c m C D) (hx : z_zb x = true) (hfl : Mc 79 8 = x) : RSq u n e (f_X3_readPlay_79_p83 (nI c) (nI m) Mc) (f_X8_readLine_107_p187 x (z_up Mm 109 8 (nI (p + 1)))) x := by
  obtain ⟨hw, hk, hg, ⟨p1, p2, p3⟩, hq, t1, t2, t3, t4, t5, t6⟩ := hd
  have hle := (GD_0 h).2.2.2.2.2
  unfold f_X3_readPlay_79_p83
  rcases G_end (x := x) (GD_mu (a := 109) (i := 8) (v := nI (p + 1)) h (by decide)) hx with ⟨b5, tt5, r5, Ec, Em, e1, e2, e3⟩ | ⟨f, pp, Ec, Em, e1, e2, e3⟩
  · left
    have eC : Ec 66 11 = nI p := (e3.2.2.2.1 66 11 (by decide) (by decide)).trans p2
    have f8 : Ec 79 8 = x := (R_X3_endsWell_79 e1 79 8 rfl).trans hfl
    rw [e1, z_bi_s, if_neg (by decide), e2, eC, z_pt_nI (by decide) hp4, z_bv_s, show z_up Ec 75 p (nI c) 66 11 = nI p from eC, z_pt_nI (by decide) hp4, z_bv_s, show z_up (z_up Ec 75 p (nI c)) 76 p (nI m) 66 11 = nI p from eC, nI_1]
    refine ⟨_, _, _, _, _, _, w, k, g, p + 1, q, _, _, rfl, rfl, GD_cu (GD_cu (GD_cu e3 (by decide)) (by decide)) (by decide), ?_, by omega, f8⟩
    refine ⟨hw, hk, hg, ⟨by omega, rfl, rfl⟩, hq, t1, t2, t3, t4, ?_, t6⟩
    obtain ⟨y1, y2, y3, y4, y5⟩ := hpl
    intro i hi
    by_cases hik : i = p
    · rw [hik]
      refine ⟨c, m, y1, y2, hm.1, hm.2, by simp [z_up], by simp [z_up, y3], by simp [z_up], by simp [z_up, y4], y5⟩
    · obtain ⟨c', m', x1, x2, x3, x4, x5, x6, x7, x8, x9⟩ := t5 i (by omega)
      refine ⟨c', m', x1, x2, x3, x4, by simp [z_up, hik, x5], by simp [z_up, x6], by simp [z_up, hik, x7], by simp [z_up, x8], x9⟩
  · right
    rw [e1, z_bi_s, if_pos rfl, e2]
    exact ⟨f, pp, x, Ec, Em, rfl, rfl, e3.1, e3.2.1⟩
