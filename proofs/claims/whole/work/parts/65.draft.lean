/-! ===== told: the pair of readers with their drafts ===== -/
def outq (w : zWs) (lo hi : Nat) : Bool := w.1.all (fun p => p.1 < lo || hi < p.1) && w.2.all (fun c => c < lo || hi < c)
theorem out_fr {w : zWs} {lo hi : Nat} {M M' : zMM} (hw : outq w lo hi = true) (h : z_fr w M M') : ∀ a b, lo ≤ a → a ≤ hi → M' a b = M a b := by
  intro a b h1 h2
  apply h
  unfold outq at hw
  rw [Bool.and_eq_true, List.all_eq_true, List.all_eq_true] at hw
  unfold z_ok
  rw [Bool.and_eq_true]
  constructor
  · cases hc : w.2.contains a with
    | false => rfl
    | true =>
      have := hw.2 a (List.contains_iff_mem.mp hc)
      rw [Bool.or_eq_true, decide_eq_true_eq, decide_eq_true_eq] at this
      omega
  · cases hc : w.1.contains (a, b) with
    | false => rfl
    | true =>
      have := hw.1 (a, b) (List.contains_iff_mem.mp hc)
      rw [Bool.or_eq_true, decide_eq_true_eq, decide_eq_true_eq] at this
      have h3 : a < lo ∨ hi < a := this
      omega
theorem stq_fr {M M' : zMM} (h : stq M) (hf : ∀ a b, 27 ≤ a → a ≤ 50 → M' a b = M a b) : stq M' := by
  intro s h1 h2 i hi
  rw [hf _ _ (by omega) (by omega)]
  exact h s h1 h2 i hi
def DF (D M : zMM) : Prop := ∀ a b, 109 ≤ a → a ≤ 121 → M a b = D a b
def CF (C M : zMM) : Prop := ∀ a b, 66 ≤ a → a ≤ 78 → M a b = C a b
def GD (u : Nat → Nat) (n e b t r : Nat) (C D Mc Mm : zMM) : Prop := LX u n e b t r Mc Mm ∧ (stq Mc ∧ Mc 79 10 = -1) ∧ stq Mm ∧ CF C Mc ∧ DF D Mm
def BJ (u : Nat → Nat) (n : Nat) (f p : Int32) (D Mc Mm : zMM) : Prop := CJ u n f p Mc ∧ MJ f p Mm ∧ DF D Mm
theorem BJ_bad {u : Nat → Nat} {n : Nat} {f p : Int32} {D Mc Mm : zMM} (h : BJ u n f p D Mc Mm) : ¬ Mm 107 24 = 0 := by
  obtain ⟨⟨-, -, -, -, hf, -, -⟩, ⟨h1, -⟩, -⟩ := h
  rw [h1]; exact hf
theorem GD_c {u : Nat → Nat} {n e b t r : Nat} {C C' D Mc Mc' Mm : zMM} (h : GD u n e b t r C D Mc Mm) (h1 : ∀ a b, a < 66 ∨ 78 < a → ¬ (a = 79 ∧ b = 7) → ¬ (a = 79 ∧ b = 8) → Mc' a b = Mc a b) (h2 : CF C' Mc') : GD u n e b t r C' D Mc' Mm := by
  obtain ⟨⟨hn, he, htk, ⟨c1, c2, c3, c4, c5, c6, c7⟩, hm⟩, s1, s2, -, hD⟩ := h
  have g : ∀ i, i ≠ 7 → i ≠ 8 → Mc' 79 i = Mc 79 i := fun i h3 h4 => h1 79 i (by omega) (by omega) (by omega)
  refine ⟨⟨hn, he, htk, ⟨?_, ?_, ?_, ?_, ?_, ?_, ?_⟩, hm⟩, ⟨stq_fr s1.1 (fun a b h3 h4 => h1 a b (by omega) (by omega) (by omega)), (g 10 (by decide) (by decide)).trans s1.2⟩, s2, h2, hD⟩
  · rw [g 2 (by decide) (by decide)]; exact c1
  · rw [g 3 (by decide) (by decide)]; exact c2
  · rw [g 4 (by decide) (by decide)]; exact c3
  · rw [g 5 (by decide) (by decide)]; exact c4
  · rw [g 6 (by decide) (by decide)]; exact c5
  · rw [g 9 (by decide) (by decide)]; exact c6
  · exact cB_fr c7 (fun b => h1 52 b (by omega) (by omega) (by omega))
theorem GD_m {u : Nat → Nat} {n e b t r : Nat} {C D D' Mc Mm Mm' : zMM} (h : GD u n e b t r C D Mc Mm) (h1 : ∀ a b, a < 109 ∨ 121 < a → Mm' a b = Mm a b) (h2 : DF D' Mm') : GD u n e b t r C D' Mc Mm' := by
  obtain ⟨⟨hn, he, htk, hc, ⟨c1, c2, c3, c4, c5, c6, c7, c8⟩⟩, s1, s2, hC, -⟩ := h
  have g : ∀ i, Mm' 107 i = Mm 107 i := fun i => h1 107 i (by omega)
  refine ⟨⟨hn, he, htk, hc, ⟨?_, ?_, ?_, ?_, ?_, ?_, ?_, ?_⟩⟩, s1, stq_fr s2 (fun a b h3 h4 => h1 a b (by omega)), hC, h2⟩
  · rw [g]; exact c1
  · rw [g]; exact c2
  · rw [g]; exact c3
  · rw [g]; exact c4
  · rw [g]; exact c5
  · rw [g]; exact c6
  · rw [g]; exact c7
  · exact mB_fr c8 (fun b => h1 123 b (by omega))
theorem GD_mu {u : Nat → Nat} {n e b t r : Nat} {C D Mc Mm : zMM} {a i : Nat} {v : Int32} (h : GD u n e b t r C D Mc Mm) (ha : 109 ≤ a ∧ a ≤ 121) : GD u n e b t r C (z_up D a i v) Mc (z_up Mm a i v) := by
  apply GD_m h
  · intro c d hc
    rw [z_up_o (by omega)]
  · intro c d h1 h2
    have := h.2.2.2.2 c d h1 h2
    unfold z_up
    rw [this]
theorem GD_cu {u : Nat → Nat} {n e b t r : Nat} {C D Mc Mm : zMM} {a i : Nat} {v : Int32} (h : GD u n e b t r C D Mc Mm) (ha : 66 ≤ a ∧ a ≤ 78) : GD u n e b t r (z_up C a i v) D (z_up Mc a i v) Mm := by
  apply GD_c h
  · intro c d hc _ _
    rw [z_up_o (by omega)]
  · intro c d h1 h2
    have := h.2.2.2.1 c d h1 h2
    unfold z_up
    rw [this]
theorem G_step {u : Nat → Nat} {n e b t r : Nat} {C D Mc Mm : zMM} (h : GD u n e b t r C D Mc Mm) : ∃ b' t' r' Mc' Mm', f_X3_step_79 Mc = some Mc' ∧ f_X8_stepOn_107 Mm = some Mm' ∧ GD u n r b' t' r' C D Mc' Mm' := by
  obtain ⟨h1, h2, h3, h4, h5⟩ := h
  obtain ⟨b', t', r', Mc', Mm', a1, a2, a3⟩ := L_step h1
  have fc := R_X3_step_79 a1
  have fm := R_X8_stepOn_107 a2
  exact ⟨b', t', r', Mc', Mm', a1, a2, a3, ⟨stq_fr h2.1 (out_fr (by decide) fc), (fc 79 10 rfl).trans h2.2⟩, stq_fr h3 (out_fr (by decide) fm), fun a b q1 q2 => (out_fr (by decide) fc a b q1 q2).trans (h4 a b q1 q2), fun a b q1 q2 => (out_fr (by decide) fm a b q1 q2).trans (h5 a b q1 q2)⟩
/-- the number that stands here, the model not yet past it -/
theorem G_now {u : Nat → Nat} {n e b t r lo hi : Nat} {C D Mc Mm : zMM} (h : GD u n e b t r C D Mc Mm) (hlo : lo < 2 ^ 31) (hhi : hi < 2 ^ 31) :
    (∃ v b' t' r' Mc' Mm', lo ≤ v ∧ v ≤ hi ∧ f_X3_takeNumber_79 (nI lo) (nI hi) Mc = some (nI v, Mc') ∧ f_X8_numberNow_107 (nI lo) (nI hi) Mm = some (nI v, Mm) ∧ f_X8_stepOn_107 Mm = some Mm' ∧ GD u n r b' t' r' C D Mc' Mm' ∧ Mc' 79 7 = nI b ∧ Mm 107 22 = nI b ∧ Mm 107 24 = 0) ∨
    (∃ f p Mc' Mm', f_X3_takeNumber_79 (nI lo) (nI hi) Mc = some (-1, Mc') ∧ f_X8_numberNow_107 (nI lo) (nI hi) Mm = some ((0 : Int32), Mm') ∧ BJ u n f p D Mc' Mm') := by
  obtain ⟨h1, h2, h3, h4, h5⟩ := h
  rcases P_num h1 hlo hhi with ⟨v, b', t', r', Mc', Mm', a1, a2, a3, a4, a5, a6, a7, a8, a9⟩ | ⟨f, Mc', Mm', a1, a2, a3, a4, a5⟩
  · left
    have fc := R_X3_takeNumber_79 a4
    have fm := R_X8_stepOn_107 a6
    refine ⟨v, b', t', r', Mc', Mm', a1, a2, a4, a5, a6, ⟨a7, ⟨stq_fr h2.1 (out_fr (by decide) fc), a9.trans h2.2⟩, stq_fr h3 (out_fr (by decide) fm), fun a b q1 q2 => (out_fr (by decide) fc a b q1 q2).trans (h4 a b q1 q2), fun a b q1 q2 => (out_fr (by decide) fm a b q1 q2).trans (h5 a b q1 q2)⟩, a8, ?_, ?_⟩
    · exact h1.2.2.2.2.2.2.1
    · exact h1.2.2.2.2.2.2.2.2.2.2.1
  · right
    exact ⟨f, nI b, Mc', Mm', a1, a2, a3, a4, fun a b q1 q2 => (out_fr (by decide) a5 a b q1 q2).trans (h5 a b q1 q2)⟩
theorem G_num {u : Nat → Nat} {n e b t r lo hi : Nat} {C D Mc Mm : zMM} (h : GD u n e b t r C D Mc Mm) (hlo : lo < 2 ^ 31) (hhi : hi < 2 ^ 31) :
    (∃ v b' t' r' Mc' Mm', lo ≤ v ∧ v ≤ hi ∧ f_X3_takeNumber_79 (nI lo) (nI hi) Mc = some (nI v, Mc') ∧ f_X8_readNumber_107 (nI lo) (nI hi) Mm = some (nI v, Mm') ∧ GD u n r b' t' r' C D Mc' Mm') ∨
    (∃ f p Mc' Mm', f_X3_takeNumber_79 (nI lo) (nI hi) Mc = some (-1, Mc') ∧ f_X8_readNumber_107 (nI lo) (nI hi) Mm = some ((0 : Int32), Mm') ∧ BJ u n f p D Mc' Mm') := by
  rcases G_now h hlo hhi with ⟨v, b', t', r', Mc', Mm', a1, a2, a3, a4, a5, a6, a7, a8, a9⟩ | ⟨f, p, Mc', Mm', a1, a2, a3⟩
  · left
    refine ⟨v, b', t', r', Mc', Mm', a1, a2, a3, ?_, a6⟩
    unfold f_X8_readNumber_107
    rw [a4, z_bi_s, if_pos a9, a5, z_bv_s]
  · right
    refine ⟨f, p, Mc', Mm', a1, ?_, a3⟩
    unfold f_X8_readNumber_107
    rw [a2, z_bi_s, if_neg (BJ_bad a3)]
theorem G_fail {u : Nat → Nat} {n e b t r : Nat} {C D Mc Mm : zMM} (h : GD u n e b t r C D Mc Mm) {f p : Int32} (hf : f ≠ 0) : f_X3_fail_79 f p Mc = some (z_up (z_up Mc 79 9 f) 79 10 p) ∧ CJ u n f p (z_up (z_up Mc 79 9 f) 79 10 p) := by
  obtain ⟨⟨hn, he, htk, ⟨c1, c2, c3, c4, c5, c6, c7⟩, -⟩, -, -, -, -⟩ := h
  obtain ⟨l1, l2, l3, l4, l5, l6⟩ := tkq_le he htk
  refine ⟨?_, hn, c7, c1, ⟨r, l3, c4⟩, hf, rfl, rfl⟩
  unfold f_X3_fail_79
  rw [if_pos c6]
theorem G_wrong {D Mm : zMM} (h5 : DF D Mm) (h0 : Mm 107 24 = 0) {f p : Int32} (hp : Mm 107 22 = p) : f_X8_wrong_107 f Mm = some (z_up (z_up Mm 107 24 f) 107 25 p) ∧ MJ f p (z_up (z_up Mm 107 24 f) 107 25 p) ∧ DF D (z_up (z_up Mm 107 24 f) 107 25 p) := by
  refine ⟨?_, ⟨rfl, rfl⟩, fun a b h1 h2 => ?_⟩
  · unfold f_X8_wrong_107
    rw [if_pos h0, hp]
  · rw [z_up_o (by omega), z_up_o (by omega)]
    exact h5 a b h1 h2
theorem GD_0 {u : Nat → Nat} {n e b t r : Nat} {C D Mc Mm : zMM} (h : GD u n e b t r C D Mc Mm) : Mm 107 24 = 0 ∧ Mm 107 22 = nI b ∧ Mc 79 4 = nI b ∧ Mm 107 20 = nI t ∧ Mc 79 3 = nI t ∧ e ≤ b ∧ b ≤ r ∧ r ≤ n ∧ n ≤ 700 ∧ t ≤ 4 ∧ (t ≠ 0 → b < r) ∧ Mc 79 2 = nI n ∧ Mc 79 9 = 0 := by
  obtain ⟨⟨hn, he, htk, ⟨c1, c2, c3, c4, c5, c6, c7⟩, ⟨m1, m2, m3, m4, m5, m6, m7, m8⟩⟩, -, -, -, -⟩ := h
  obtain ⟨l1, l2, l3, l4, l5, l6⟩ := tkq_le he htk
  exact ⟨m7, m3, c3, m2, c2, l1, l2, l3, hn, l5, l4, c1, c6⟩
/-- one that is told ahead, the model not yet past it -/
theorem G_onow {u : Nat → Nat} {n e b t r j x cnt : Nat} {C D Mc Mm : zMM} (h : GD u n e b t r C D Mc Mm) (hx : x < 5) (hc : C 66 j = nI cnt) (hd : D 109 (5 + x) = nI cnt) (hcnt : cnt ≤ 10) :
    (∃ v b' t' r' Mc' Mm', v < cnt ∧ f_X3_takeNumber_79 (0 : Int32) (9999 : Int32) Mc = some (nI v, Mc') ∧ f_X3_checkTold_79 (nI v) (Mc' 66 j) Mc' = some Mc' ∧ f_X8_oneNow_107 (nI x) Mm = some (nI v, Mm) ∧ f_X8_stepOn_107 Mm = some Mm' ∧ GD u n r b' t' r' C D Mc' Mm' ∧ Mc' 79 7 = nI b ∧ Mm 107 22 = nI b ∧ Mm 107 24 = 0) ∨
    (∃ f p v Mc' Mc2 Mm', f_X3_takeNumber_79 (0 : Int32) (9999 : Int32) Mc = some (v, Mc') ∧ f_X3_checkTold_79 v (Mc' 66 j) Mc' = some Mc2 ∧ f_X8_oneNow_107 (nI x) Mm = some ((0 : Int32), Mm') ∧ BJ u n f p D Mc2 Mm') := by
  rcases G_now (lo := 0) (hi := 9999) h (by decide) (by decide) with ⟨v, b', t', r', Mc', Mm', a1, a2, a3, a4, a5, a6, a7, a8, a9⟩ | ⟨f, p, Mc', Mm', a1, a2, a3⟩
  · have a4 : f_X8_numberNow_107 (0 : Int32) (9999 : Int32) Mm = some (nI v, Mm) := a4
    have ec : Mc' 66 j = nI cnt := (a6.2.2.2.1 66 j (by decide) (by decide)).trans hc
    have ed : Mm 109 (5 + x) = nI cnt := (h.2.2.2.2 109 _ (by decide) (by decide)).trans hd
    have e5 : (5 : Int32) + nI x = nI (5 + x) := nI_add 5 x
    by_cases hv : v < cnt
    · left
      refine ⟨v, b', t', r', Mc', Mm', hv, a3, ?_, ?_, a5, a6, a7, a8, a9⟩
      · unfold f_X3_checkTold_79
        rw [ec, if_pos (nI_lt hv (by omega))]
      · unfold f_X8_oneNow_107
        rw [a4, z_bi_s, if_pos a9, e5, if_pos (z_ib_n (by decide) (by omega)), nI_clamp (by omega), ed, if_pos (nI_lt hv (by omega)), if_pos a9]
    · right
      obtain ⟨q1, q2⟩ := G_fail (f := 3) (p := nI b) a6 (by decide)
      obtain ⟨w1, w2, w3⟩ := G_wrong (f := 3) h.2.2.2.2 a9 a8
      refine ⟨3, nI b, nI v, Mc', _, _, a3, ?_, ?_, q2, w2, w3⟩
      · unfold f_X3_checkTold_79
        rw [ec, if_neg (nI_nlt (by omega) (by omega)), a7, q1, z_bv_s]
      · unfold f_X8_oneNow_107
        rw [a4, z_bi_s, if_pos a9, e5, if_pos (z_ib_n (by decide) (by omega)), nI_clamp (by omega), ed, if_neg (nI_nlt (by omega) (by omega)), w1, z_bv_s, if_neg (show ¬ z_up (z_up Mm 107 24 (3 : Int32)) 107 25 (nI b) 107 24 = 0 from (by decide : ¬ (3 : Int32) = 0))]
  · right
    have a2 : f_X8_numberNow_107 (0 : Int32) (9999 : Int32) Mm = some ((0 : Int32), Mm') := a2
    refine ⟨f, p, -1, Mc', Mc', Mm', a1, J_told a3.1, ?_, a3⟩
    unfold f_X8_oneNow_107
    rw [a2, z_bi_s, if_neg (BJ_bad a3), if_neg (BJ_bad a3)]
theorem G_one {u : Nat → Nat} {n e b t r j x cnt : Nat} {C D Mc Mm : zMM} (h : GD u n e b t r C D Mc Mm) (hx : x < 5) (hc : C 66 j = nI cnt) (hd : D 109 (5 + x) = nI cnt) (hcnt : cnt ≤ 10) :
    (∃ v b' t' r' Mc' Mm', v < cnt ∧ f_X3_takeNumber_79 (0 : Int32) (9999 : Int32) Mc = some (nI v, Mc') ∧ f_X3_checkTold_79 (nI v) (Mc' 66 j) Mc' = some Mc' ∧ f_X8_readOne_107 (nI x) Mm = some (nI v, Mm') ∧ GD u n r b' t' r' C D Mc' Mm') ∨
    (∃ f p v Mc' Mc2 Mm', f_X3_takeNumber_79 (0 : Int32) (9999 : Int32) Mc = some (v, Mc') ∧ f_X3_checkTold_79 v (Mc' 66 j) Mc' = some Mc2 ∧ f_X8_readOne_107 (nI x) Mm = some ((0 : Int32), Mm') ∧ BJ u n f p D Mc2 Mm') := by
  rcases G_onow h hx hc hd hcnt with ⟨v, b', t', r', Mc', Mm', a1, a2, a3, a4, a5, a6, a7, a8, a9⟩ | ⟨f, p, v, Mc', Mc2, Mm', a1, a2, a3, a4⟩
  · left
    refine ⟨v, b', t', r', Mc', Mm', a1, a2, a3, ?_, a6⟩
    unfold f_X8_readOne_107
    rw [a4, z_bi_s, if_pos a9, a5, z_bv_s]
  · right
    refine ⟨f, p, v, Mc', Mc2, Mm', a1, a2, ?_, a4⟩
    unfold f_X8_readOne_107
    rw [a3, z_bi_s, if_neg (BJ_bad a4)]
/-- a line's first word, of whose like there are so many -/
theorem G_head {u : Nat → Nat} {n e b t r j x cnt most : Nat} {C D Mc Mm : zMM} (h : GD u n e b t r C D Mc Mm) (hx : x < 5) (hc : C 66 j = nI cnt) (hd : D 109 (5 + x) = nI cnt) (hm : most ≤ 10) (hcnt : cnt ≤ most) :
    (∃ b' t' r' Mc' Mm', cnt < most ∧ f_X3_takeHead_79 (Mc 66 j) (nI most) Mc = some Mc' ∧ f_X8_begin_107 (nI x) (nI most) Mm = some ((1 : Int32), Mm') ∧ GD u n r b' t' r' C D Mc' Mm') ∨
    (∃ f p Mc' Mm', f_X3_takeHead_79 (Mc 66 j) (nI most) Mc = some Mc' ∧ f_X8_begin_107 (nI x) (nI most) Mm = some ((0 : Int32), Mm') ∧ BJ u n f p D Mc' Mm') := by
  obtain ⟨b', t', r', Mc', Mm', s1, s2, s3⟩ := G_step h
  obtain ⟨z0, z22, z4, -⟩ := GD_0 h
  have ec : Mc 66 j = nI cnt := (h.2.2.2.1 66 j (by decide) (by decide)).trans hc
  have ed : Mm 109 (5 + x) = nI cnt := (h.2.2.2.2 109 _ (by decide) (by decide)).trans hd
  have e5 : (5 : Int32) + nI x = nI (5 + x) := nI_add 5 x
  unfold f_X3_takeHead_79 f_X8_begin_107
  rw [ec, e5, if_pos (z_ib_n (by decide) (by omega)), nI_clamp (by omega), ed]
  by_cases hlt : cnt < most
  · left
    refine ⟨b', t', r', Mc', Mm', hlt, ?_, ?_, s3⟩
    · rw [if_pos (nI_lt hlt (by omega)), s1, z_bv_s]
    · rw [if_neg (fun z => by have := (nI_eq (by omega) (by omega)).mp z; omega), if_pos z0, s2, z_bv_s]
  · right
    obtain ⟨q1, q2⟩ := G_fail (f := 2) (p := nI b) h (by decide)
    obtain ⟨w1, w2, w3⟩ := G_wrong (f := 2) h.2.2.2.2 z0 z22
    obtain ⟨Mj, j1, j2⟩ := J_step q2
    refine ⟨2, nI b, Mj, _, ?_, ?_, j2, w2, w3⟩
    · rw [if_neg (nI_nlt (by omega) (by omega)), z4, q1, z_bv_s, j1, z_bv_s]
    · rw [if_pos (by rw [show cnt = most by omega]), w1, z_bv_s, if_neg (show ¬ z_up (z_up Mm 107 24 (2 : Int32)) 107 25 (nI b) 107 24 = 0 from (by decide : ¬ (2 : Int32) = 0))]
/-- a line's end -/
theorem G_end {u : Nat → Nat} {n e b t r : Nat} {C D Mc Mm : zMM} {x : Int32} (h : GD u n e b t r C D Mc Mm) (hx : z_zb x = true) :
    (∃ b' t' r' Mc' Mm', f_X3_endsWell_79 Mc = some ((1 : Int32), Mc') ∧ f_X8_readLine_107_p187 x Mm = some (x, Mm') ∧ GD u n r b' t' r' C D Mc' Mm') ∨
    (∃ f p Mc' Mm', f_X3_endsWell_79 Mc = some ((0 : Int32), Mc') ∧ f_X8_readLine_107_p187 x Mm = some (x, Mm') ∧ BJ u n f p D Mc' Mm') := by
  obtain ⟨b', t', r', Mc', Mm', s1, s2, s3⟩ := G_step h
  obtain ⟨z0, z22, z4, z20, z3, -, -, -, -, zt, -⟩ := GD_0 h
  have z9 := (GD_0 s3).2.2.2.2.2.2.2.2.2.2.2.2
  unfold f_X3_endsWell_79 f_X8_readLine_107_p187
  rw [z3, z20, if_pos z0]
  by_cases ht : t = 3
  · left
    have et : nI t = (3 : Int32) := by rw [ht]; rfl
    refine ⟨b', t', r', Mc', Mm', ?_, ?_, s3⟩
    · rw [if_pos et, s1, z_bv_s, if_pos z9]
    · rw [if_pos et, if_pos z0, s2, z_bv_s, if_pos hx]
  · right
    have et : ¬ nI t = (3 : Int32) := fun z => ht ((nI_eq (b := 3) (by omega) (by decide)).mp z)
    obtain ⟨q1, q2⟩ := G_fail (f := 1) (p := nI b) h (by decide)
    obtain ⟨w1, w2, w3⟩ := G_wrong (f := 1) h.2.2.2.2 z0 z22
    obtain ⟨Mj, j1, j2⟩ := J_step q2
    refine ⟨1, nI b, Mj, _, ?_, ?_, j2, w2, w3⟩
    · have h9 : ¬ Mj 79 9 = 0 := by
        obtain ⟨-, -, -, -, hf, h9, -⟩ := j2
        rw [h9]; exact hf
      rw [if_neg et, z4, q1, z_bv_s, j1, z_bv_s, if_neg h9]
    · rw [if_neg et, w1, z_bv_s, if_neg (show ¬ z_up (z_up Mm 107 24 (1 : Int32)) 107 25 (nI b) 107 24 = 0 from (by decide : ¬ (1 : Int32) = 0)), if_pos hx]
theorem B_end {M : zMM} {x : Int32} (h : ¬ M 107 24 = 0) (hx : z_zb x = true) : f_X8_readLine_107_p187 x M = some (x, M) := by
  unfold f_X8_readLine_107_p187
  rw [if_neg h, if_neg h, if_pos hx]
/-- the same word on both sides -/
def wsq (s s' : Nat) : Prop := z_sn s = z_sn s' ∧ z_sn s ≤ 8 ∧ (∀ i : Nat, i < 8 → wcq s i = wcq s' i) ∧ (3 ≤ s ∧ s < 27) ∧ (3 ≤ s' ∧ s' < 27)
theorem wsq_wp {u : Nat → Nat} {b t r s s' : Nat} (h : wsq s s') : wpq u b t r s ↔ wpq u b t r s' := by
  obtain ⟨h1, h2, h3, -, -⟩ := h
  unfold wpq
  constructor
  · rintro ⟨a, b, c⟩
    exact ⟨a, by omega, fun i hi => (c i (by omega)).trans (h3 i (by omega))⟩
  · rintro ⟨a, b, c⟩
    exact ⟨a, by omega, fun i hi => (c i (by omega)).trans (h3 i (by omega)).symm⟩
theorem G_word {u : Nat → Nat} {n e b t r s s' : Nat} {C D Mc Mm : zMM} (h : GD u n e b t r C D Mc Mm) (hw : wsq s s') : (wpq u b t r s ∧ f_X3_isWord_79 s Mc = some ((1 : Int32), Mc) ∧ f_X8_is_107 s' Mm = some ((1 : Int32), Mm)) ∨ (¬ wpq u b t r s ∧ f_X3_isWord_79 s Mc = some ((0 : Int32), Mc) ∧ f_X8_is_107 s' Mm = some ((0 : Int32), Mm)) := by
  obtain ⟨⟨hn, he, htk, hc, hm⟩, s1, s2, -, -⟩ := h
  have hq := wsq_wp (u := u) (b := b) (t := t) (r := r) hw
  rcases L_word7 hn he htk hc hw.2.2.2.1 s1.1 with ⟨a1, a2⟩ | ⟨a1, a2⟩ <;> rcases L_word8 hn he htk hm hw.2.2.2.2 s2 with ⟨d1, d2⟩ | ⟨d1, d2⟩
  · exact Or.inl ⟨a1, a2, d2⟩
  · exact absurd (hq.mp a1) d1
  · exact absurd (hq.mpr d1) a1
  · exact Or.inr ⟨a1, a2, d2⟩
theorem wsq_all : wsq 3 19 ∧ wsq 9 21 ∧ wsq 10 22 ∧ wsq 11 23 ∧ wsq 12 24 ∧ wsq 13 25 ∧ wsq 14 26 ∧ wsq 8 20 ∧ wsq 4 15 ∧ wsq 5 16 ∧ wsq 6 17 ∧ wsq 7 18 := by
  have key : ∀ s : Nat, s < 27 → z_sn s ≤ 8 := by decide +kernel
  have hn : z_sn 3 = z_sn 19 ∧ z_sn 9 = z_sn 21 ∧ z_sn 10 = z_sn 22 ∧ z_sn 11 = z_sn 23 ∧ z_sn 12 = z_sn 24 ∧ z_sn 13 = z_sn 25 ∧ z_sn 14 = z_sn 26 ∧ z_sn 8 = z_sn 20 ∧ z_sn 4 = z_sn 15 ∧ z_sn 5 = z_sn 16 ∧ z_sn 6 = z_sn 17 ∧ z_sn 7 = z_sn 18 := by decide +kernel
  obtain ⟨n1, n2, n3, n4, n5, n6, n7, n8, n9, n10, n11, n12⟩ := hn
  exact ⟨⟨n1, key _ (by decide), fun i hi => (w_same i hi).1, by decide, by decide⟩,
    ⟨n2, key _ (by decide), fun i hi => (w_same i hi).2.1, by decide, by decide⟩,
    ⟨n3, key _ (by decide), fun i hi => (w_same i hi).2.2.1, by decide, by decide⟩,
    ⟨n4, key _ (by decide), fun i hi => (w_same i hi).2.2.2.1, by decide, by decide⟩,
    ⟨n5, key _ (by decide), fun i hi => (w_same i hi).2.2.2.2.1, by decide, by decide⟩,
    ⟨n6, key _ (by decide), fun i hi => (w_same i hi).2.2.2.2.2.1, by decide, by decide⟩,
    ⟨n7, key _ (by decide), fun i hi => (w_same i hi).2.2.2.2.2.2.1, by decide, by decide⟩,
    ⟨n8, key _ (by decide), fun i hi => (w_same i hi).2.2.2.2.2.2.2.1, by decide, by decide⟩,
    ⟨n9, key _ (by decide), fun i hi => (w_same i hi).2.2.2.2.2.2.2.2.1, by decide, by decide⟩,
    ⟨n10, key _ (by decide), fun i hi => (w_same i hi).2.2.2.2.2.2.2.2.2.1, by decide, by decide⟩,
    ⟨n11, key _ (by decide), fun i hi => (w_same i hi).2.2.2.2.2.2.2.2.2.2.1, by decide, by decide⟩,
    ⟨n12, key _ (by decide), fun i hi => (w_same i hi).2.2.2.2.2.2.2.2.2.2.2, by decide, by decide⟩⟩
