/-! ===== told: what both readers do with a token ===== -/
def LXc (u : Nat → Nat) (n e b t r : Nat) (M : zMM) : Prop := M 79 2 = nI n ∧ M 79 3 = nI t ∧ M 79 4 = nI b ∧ M 79 5 = nI r ∧ (t = 2 → r - b ≤ 4 → M 79 6 = nI (dvq u b (r - b)) ∧ dvq u b (r - b) < 10000) ∧ M 79 9 = 0 ∧ cB u n M
def LXm (u : Nat → Nat) (n e b t r : Nat) (M : zMM) : Prop := M 107 19 = nI n ∧ M 107 20 = nI t ∧ M 107 22 = nI b ∧ M 107 18 = nI r ∧ M 107 23 = nI r ∧ (t = 2 → r - b ≤ 4 → M 107 21 = nI (dvq u b (r - b))) ∧ M 107 24 = 0 ∧ mB u n M
def LX (u : Nat → Nat) (n e b t r : Nat) (Mc Mm : zMM) : Prop := n ≤ 700 ∧ e ≤ n ∧ tkq u n e b t r ∧ LXc u n e b t r Mc ∧ LXm u n e b t r Mm
def CJ (u : Nat → Nat) (n : Nat) (f p : Int32) (M : zMM) : Prop := n ≤ 700 ∧ cB u n M ∧ M 79 2 = nI n ∧ (∃ e, e ≤ n ∧ M 79 5 = nI e) ∧ f ≠ 0 ∧ M 79 9 = f ∧ M 79 10 = p
def MJ (f p : Int32) (M : zMM) : Prop := M 107 24 = f ∧ M 107 25 = p
theorem cB_fr {u : Nat → Nat} {n : Nat} {M M' : zMM} (h : cB u n M) (hf : ∀ b, M' 52 b = M 52 b) : cB u n M' := by
  intro i hi
  rw [hf]; exact h i hi
theorem mB_fr {u : Nat → Nat} {n : Nat} {M M' : zMM} (h : mB u n M) (hf : ∀ b, M' 123 b = M 123 b) : mB u n M' := by
  intro i hi
  rw [hf]; exact h i hi
theorem L_step {u : Nat → Nat} {n e b t r : Nat} {Mc Mm : zMM} (h : LX u n e b t r Mc Mm) : ∃ b' t' r' Mc' Mm', f_X3_step_79 Mc = some Mc' ∧ f_X8_stepOn_107 Mm = some Mm' ∧ LX u n r b' t' r' Mc' Mm' := by
  obtain ⟨hn, he, htk, ⟨c1, c2, c3, c4, c5, c6, c7⟩, ⟨m1, m2, m3, m4, m5, m6, m7, m8⟩⟩ := h
  have hr := (tkq_le he htk).2.2.1
  obtain ⟨b', t', r', Mc', a1, a2, a3, a4, a5, a6⟩ := e_step7 hn hr c7 c1 c4
  obtain ⟨b2, t2, r2, Mm', d1, d2, d3, d4, d5, d6, d7⟩ := e_step8 hn hr m8 m1 m4
  obtain ⟨q1, q2, q3⟩ := tk_inj a2 d2
  have fc := R_X3_step_79 a1
  have fm := R_X8_stepOn_107 d1
  rw [← q1, ← q2, ← q3] at d7
  rw [← q2] at d3
  rw [← q1] at d4
  rw [← q3] at d5 d6
  exact ⟨b', t', r', Mc', Mm', a1, d1, hn, hr, a2, ⟨(fc 79 2 rfl).trans c1, a3, a4, a5, a6, (fc 79 9 rfl).trans c6, cB_fr c7 (fun b => fc 52 b rfl)⟩, ⟨(fm 107 19 rfl).trans m1, d3, d4, d5, d6, d7, (fm 107 24 rfl).trans m7, mB_fr m8 (fun b => fm 123 b rfl)⟩⟩
theorem LX_7 {u : Nat → Nat} {n e b t r : Nat} {Mc Mm : zMM} {x : Int32} (h : LX u n e b t r Mc Mm) : LX u n e b t r (z_up Mc 79 7 x) Mm := h
theorem J_step {u : Nat → Nat} {n : Nat} {f p : Int32} {M : zMM} (h : CJ u n f p M) : ∃ M', f_X3_step_79 M = some M' ∧ CJ u n f p M' := by
  obtain ⟨hn, hB, h2, ⟨e, he, h5⟩, hf, h9, h10⟩ := h
  obtain ⟨b', t', r', M', a1, a2, a3, a4, a5, a6⟩ := e_step7 hn he hB h2 h5
  have fc := R_X3_step_79 a1
  exact ⟨M', a1, hn, cB_fr hB (fun b => fc 52 b rfl), (fc 79 2 rfl).trans h2, ⟨r', (tkq_le he a2).2.2.1, a5⟩, hf, (fc 79 9 rfl).trans h9, (fc 79 10 rfl).trans h10⟩
theorem J_fail {u : Nat → Nat} {n : Nat} {f p x y : Int32} {M : zMM} (h : CJ u n f p M) : f_X3_fail_79 x y M = some M := by
  obtain ⟨-, -, -, -, hf, h9, -⟩ := h
  unfold f_X3_fail_79
  rw [if_neg (by rw [h9]; exact hf)]
theorem J_7 {u : Nat → Nat} {n : Nat} {f p x : Int32} {M : zMM} (h : CJ u n f p M) : CJ u n f p (z_up M 79 7 x) := h
theorem J_num {u : Nat → Nat} {n : Nat} {f p x y : Int32} {M : zMM} (h : CJ u n f p M) : ∃ v M', f_X3_takeNumber_79 x y M = some (v, M') ∧ CJ u n f p M' := by
  unfold f_X3_takeNumber_79
  rw [J_fail h, J_fail h, z_bv_s]
  obtain ⟨M', s1, s2⟩ := J_step (J_7 (x := M 79 4) h)
  rw [s1, z_bv_s]
  split
  · split
    · exact ⟨_, _, rfl, h⟩
    · split
      · exact ⟨_, _, rfl, h⟩
      · split
        · exact ⟨_, _, rfl, s2⟩
        · exact ⟨_, _, rfl, h⟩
  · exact ⟨_, _, rfl, h⟩
theorem J_told {u : Nat → Nat} {n : Nat} {f p x y : Int32} {M : zMM} (h : CJ u n f p M) : f_X3_checkTold_79 x y M = some M := by
  unfold f_X3_checkTold_79
  rw [J_fail h, z_bv_s]
  split <;> rfl
theorem J_head {u : Nat → Nat} {n : Nat} {f p x y : Int32} {M : zMM} (h : CJ u n f p M) : ∃ M', f_X3_takeHead_79 x y M = some M' ∧ CJ u n f p M' := by
  unfold f_X3_takeHead_79
  obtain ⟨M', s1, s2⟩ := J_step h
  rw [J_fail h, z_bv_s, s1, z_bv_s]
  split <;> exact ⟨_, rfl, s2⟩
theorem J_end {u : Nat → Nat} {n : Nat} {f p : Int32} {M : zMM} (h : CJ u n f p M) : ∃ M', f_X3_endsWell_79 M = some ((0 : Int32), M') ∧ CJ u n f p M' := by
  unfold f_X3_endsWell_79
  obtain ⟨M', s1, s2⟩ := J_step h
  rw [J_fail h, z_bv_s, s1, z_bv_s]
  have h9 : ¬ M' 79 9 = 0 := by
    obtain ⟨-, -, -, -, hf, h9, -⟩ := s2
    rw [h9]; exact hf
  rw [if_neg h9]
  split <;> exact ⟨_, rfl, s2⟩
theorem J_word {s : Nat} (hs : 3 ≤ s ∧ s < 27) {M : zMM} : ∃ v, f_X3_isWord_79 s M = some (v, M) := by
  have hl : z_sn s ≤ 10 := by
    have key : ∀ s : Nat, s < 27 → z_sn s ≤ 10 := by decide +kernel
    exact key s hs.2
  have loop : ∀ k i, i + k = z_sn s → ∀ fu, k < fu → ∃ v, f_X3_isWord_79_p28 s fu (nI i) M = some (v, M) := by
    intro k
    induction k with
    | zero =>
      intro i hi fu hfu
      obtain ⟨fu, rfl⟩ : ∃ m, fu = m + 1 := ⟨fu - 1, by omega⟩
      unfold f_X3_isWord_79_p28
      rw [if_pos (show z_sl s ≤ nI i from nI_le (by omega) (by omega))]
      exact ⟨_, rfl⟩
    | succ k ih =>
      intro i hi fu hfu
      obtain ⟨fu, rfl⟩ : ∃ m, fu = m + 1 := ⟨fu - 1, by omega⟩
      unfold f_X3_isWord_79_p28
      obtain ⟨v, hv⟩ := e_byT (x := M 79 4 + nI i) (M := M)
      rw [if_neg (show ¬ z_sl s ≤ nI i from nI_ge (by omega) (by omega)), hv, z_bi_s, if_pos (z_ib_n (by omega) (by omega)), nI_1]
      split
      · exact ih (i + 1) (by omega) fu (by omega)
      · exact ⟨_, rfl⟩
  unfold f_X3_isWord_79
  rw [if_pos hs]
  split
  · split
    · exact loop (z_sn s) 0 (by omega) z_fuel (by unfold z_fuel; omega)
    · exact ⟨_, rfl⟩
  · exact ⟨_, rfl⟩
/-! words -/
def wcq (s i : Nat) : Nat := ((z_sby.getD (s - 3) []).getD i 0).toNatClampNeg
def wpq (u : Nat → Nat) (b t r s : Nat) : Prop := t = 1 ∧ r = b + z_sn s ∧ ∀ i, i < z_sn s → u (b + i) = wcq s i
theorem wc_ok : ∀ s : Nat, s < 27 → ∀ i : Nat, i < 8 → (z_sby.getD (s - 3) []).getD i 0 = nI (wcq s i) ∧ wcq s i < 128 ∧ z_ch (nI (wcq s i)) = nI (wcq s i) := by decide +kernel
def stq (M : zMM) : Prop := ∀ s, 3 ≤ s → s < 27 → ∀ i, i < z_sn s → M (s + 24) i = nI (wcq s i)
theorem st_of {M : zMM} (h : j_st2 M) : stq M := by
  intro s h1 h2 i hi
  have key : ∀ s : Nat, s < 27 → z_sn s = z_sln.getD (s - 3) 0 ∧ z_sn s ≤ 8 := by decide +kernel
  have hw := (wc_ok s h2 i (by have := (key s h2).2; omega)).1
  rw [← hw]
  rw [(key s h2).1] at hi
  obtain ⟨q3, q4, q5, q6, q7, q8, q9, q10, q11, q12, q13, q14, q15, q16, q17, q18, q19, q20, q21, q22, q23, q24, q25, q26⟩ := h
  have hs : s = 3 ∨ s = 4 ∨ s = 5 ∨ s = 6 ∨ s = 7 ∨ s = 8 ∨ s = 9 ∨ s = 10 ∨ s = 11 ∨ s = 12 ∨ s = 13 ∨ s = 14 ∨ s = 15 ∨ s = 16 ∨ s = 17 ∨ s = 18 ∨ s = 19 ∨ s = 20 ∨ s = 21 ∨ s = 22 ∨ s = 23 ∨ s = 24 ∨ s = 25 ∨ s = 26 := by omega
  rcases hs with rfl | rfl | rfl | rfl | rfl | rfl | rfl | rfl | rfl | rfl | rfl | rfl | rfl | rfl | rfl | rfl | rfl | rfl | rfl | rfl | rfl | rfl | rfl | rfl
  · exact q3 i hi
  · exact q4 i hi
  · exact q5 i hi
  · exact q6 i hi
  · exact q7 i hi
  · exact q8 i hi
  · exact q9 i hi
  · exact q10 i hi
  · exact q11 i hi
  · exact q12 i hi
  · exact q13 i hi
  · exact q14 i hi
  · exact q15 i hi
  · exact q16 i hi
  · exact q17 i hi
  · exact q18 i hi
  · exact q19 i hi
  · exact q20 i hi
  · exact q21 i hi
  · exact q22 i hi
  · exact q23 i hi
  · exact q24 i hi
  · exact q25 i hi
  · exact q26 i hi
theorem L_word7 {u : Nat → Nat} {n e b t r s : Nat} {M : zMM} (hn : n ≤ 700) (he : e ≤ n) (htk : tkq u n e b t r) (h : LXc u n e b t r M) (hs : 3 ≤ s ∧ s < 27) (hst : stq M) : (wpq u b t r s ∧ f_X3_isWord_79 s M = some ((1 : Int32), M)) ∨ (¬ wpq u b t r s ∧ f_X3_isWord_79 s M = some ((0 : Int32), M)) := by
  obtain ⟨c1, c2, c3, c4, c5, c6, c7⟩ := h
  obtain ⟨l1, l2, l3, l4, l5, l6⟩ := tkq_le he htk
  have hl : z_sn s ≤ 8 := by
    have key : ∀ s : Nat, s < 27 → z_sn s ≤ 8 := by decide +kernel
    exact key s hs.2
  unfold f_X3_isWord_79
  rw [if_pos hs, c2, c3, c4, nI_subq l2 (by omega)]
  by_cases ht : t = 1
  · rw [if_pos (show nI t = (1 : Int32) by rw [ht]; rfl)]
    by_cases hlen : r - b = z_sn s
    · rw [if_pos (show nI (r - b) = z_sl s by rw [hlen]; rfl)]
      have loop : ∀ k i, i + k = z_sn s → ∀ fu, k < fu → (∀ j, j < i → u (b + j) = wcq s j) → (wpq u b t r s ∧ f_X3_isWord_79_p28 s fu (nI i) M = some ((1 : Int32), M)) ∨ (¬ wpq u b t r s ∧ f_X3_isWord_79_p28 s fu (nI i) M = some ((0 : Int32), M)) := by
        intro k
        induction k with
        | zero =>
          intro i hi fu hfu hold
          obtain ⟨fu, rfl⟩ : ∃ m, fu = m + 1 := ⟨fu - 1, by omega⟩
          unfold f_X3_isWord_79_p28
          rw [if_pos (show z_sl s ≤ nI i from nI_le (by omega) (by omega))]
          exact Or.inl ⟨⟨ht, by omega, fun j hj => hold j (by omega)⟩, rfl⟩
        | succ k ih =>
          intro i hi fu hfu hold
          obtain ⟨fu, rfl⟩ : ∃ m, fu = m + 1 := ⟨fu - 1, by omega⟩
          unfold f_X3_isWord_79_p28
          obtain ⟨w1, w2, w3⟩ := wc_ok s hs.2 i (by omega)
          rw [if_neg (show ¬ z_sl s ≤ nI i from nI_ge (by omega) (by omega)), c3, nI_add, e_by7 c7 hn (by omega), z_bi_s, if_pos (z_ib_n (by omega) (by omega)), nI_clamp (by omega), hst s hs.1 hs.2 i (by omega), w3, nI_1]
          have hcmp : M 52 (b + i) = nI (wcq s i) ↔ u (b + i) = wcq s i := by
            rcases (c7 (b + i) (by omega)).2 with ⟨z1, z2⟩ | ⟨z1, z2⟩
            · rw [z2]; exact nI_eq (by omega) (by omega)
            · exact ⟨fun z => absurd z (neg_lt z2 (by omega)).2.2, fun z => by omega⟩
          by_cases hc : u (b + i) = wcq s i
          · rw [if_pos (hcmp.mpr hc)]
            exact ih (i + 1) (by omega) fu (by omega) (fun j hj => by
              by_cases hji : j = i
              · rw [hji]; exact hc
              · exact hold j (by omega))
          · rw [if_neg (fun z => hc (hcmp.mp z))]
            exact Or.inr ⟨fun z => hc (z.2.2 i (by omega)), rfl⟩
      exact loop (z_sn s) 0 (by omega) z_fuel (by unfold z_fuel; omega) (fun j hj => absurd hj (by omega))
    · rw [if_neg (show ¬ nI (r - b) = z_sl s from fun z => hlen ((nI_eq (by omega) (by omega)).mp z))]
      exact Or.inr ⟨fun z => hlen (by have := z.2.1; omega), rfl⟩
  · rw [if_neg (show ¬ nI t = (1 : Int32) from fun z => ht ((nI_eq (b := 1) (by omega) (by decide)).mp z))]
    exact Or.inr ⟨fun z => ht z.1, rfl⟩
theorem N_is0 {s : Nat} {M : zMM} : ∀ k i, i + k = 0 + k → f_X8_is_107_p39 s (k + 1) (0 : Int32) (nI i) M = some ((0 : Int32), M) := by
  intro k i _
  unfold f_X8_is_107_p39
  rw [if_pos rfl, if_pos (by decide)]
theorem L_word8 {u : Nat → Nat} {n e b t r s : Nat} {M : zMM} (hn : n ≤ 700) (he : e ≤ n) (htk : tkq u n e b t r) (h : LXm u n e b t r M) (hs : 3 ≤ s ∧ s < 27) (hst : stq M) : (wpq u b t r s ∧ f_X8_is_107 s M = some ((1 : Int32), M)) ∨ (¬ wpq u b t r s ∧ f_X8_is_107 s M = some ((0 : Int32), M)) := by
  obtain ⟨c1, c2, c3, c4, c5, c6, c7, c8⟩ := h
  obtain ⟨l1, l2, l3, l4, l5, l6⟩ := tkq_le he htk
  have hl : z_sn s ≤ 8 := by
    have key : ∀ s : Nat, s < 27 → z_sn s ≤ 8 := by decide +kernel
    exact key s hs.2
  have zero : ∀ i fu, 0 < fu → f_X8_is_107_p39 s fu (0 : Int32) i M = some ((0 : Int32), M) := by
    intro i fu hfu
    obtain ⟨fu, rfl⟩ : ∃ m, fu = m + 1 := ⟨fu - 1, by omega⟩
    unfold f_X8_is_107_p39
    rw [if_pos rfl, if_pos (by decide)]
  unfold f_X8_is_107
  rw [if_pos hs, c7, if_pos rfl, c2, c3, c5, nI_subq l2 (by omega)]
  by_cases ht : t = 1
  · rw [if_pos (show nI t = (1 : Int32) by rw [ht]; rfl)]
    by_cases hlen : r - b = z_sn s
    · rw [if_pos (show z_sl s = nI (r - b) by rw [hlen]; rfl)]
      have loop : ∀ k i, i + k = z_sn s → ∀ fu, k < fu → (∀ j, j < i → u (b + j) = wcq s j) → (wpq u b t r s ∧ f_X8_is_107_p39 s fu (1 : Int32) (nI i) M = some ((1 : Int32), M)) ∨ (¬ wpq u b t r s ∧ f_X8_is_107_p39 s fu (1 : Int32) (nI i) M = some ((0 : Int32), M)) := by
        intro k
        induction k with
        | zero =>
          intro i hi fu hfu hold
          obtain ⟨fu, rfl⟩ : ∃ m, fu = m + 1 := ⟨fu - 1, by omega⟩
          unfold f_X8_is_107_p39
          rw [if_neg (by decide), if_pos (show z_sl s ≤ nI i from nI_le (by omega) (by omega)), if_pos (by decide)]
          exact Or.inl ⟨⟨ht, by omega, fun j hj => hold j (by omega)⟩, rfl⟩
        | succ k ih =>
          intro i hi fu hfu hold
          obtain ⟨fu, rfl⟩ : ∃ m, fu = m + 1 := ⟨fu - 1, by omega⟩
          unfold f_X8_is_107_p39
          obtain ⟨w1, w2, w3⟩ := wc_ok s hs.2 i (by omega)
          rw [if_neg (by decide), if_neg (show ¬ z_sl s ≤ nI i from nI_ge (by omega) (by omega)), if_pos (z_ib_n (by omega) (by omega)), c3, nI_add, if_pos (z_ib_n (by decide) (by omega)), nI_clamp (by omega), nI_clamp (by omega), hst s hs.1 hs.2 i (by omega), w3, (c8 (b + i) (by omega)).2, nI_1]
          have hu := (c8 (b + i) (by omega)).1
          by_cases hc : u (b + i) = wcq s i
          · rw [if_pos (by rw [hc])]
            exact ih (i + 1) (by omega) fu (by omega) (fun j hj => by
              by_cases hji : j = i
              · rw [hji]; exact hc
              · exact hold j (by omega))
          · rw [if_neg (fun z => hc ((nI_eq (by omega) (by omega)).mp z).symm), zero _ fu (by omega)]
            exact Or.inr ⟨fun z => hc (z.2.2 i (by omega)), rfl⟩
      exact loop (z_sn s) 0 (by omega) z_fuel (by unfold z_fuel; omega) (fun j hj => absurd hj (by omega))
    · rw [if_neg (show ¬ z_sl s = nI (r - b) from fun z => hlen ((nI_eq (by omega) (by omega)).mp z).symm), zero _ z_fuel (by decide)]
      exact Or.inr ⟨fun z => hlen (by have := z.2.1; omega), rfl⟩
  · rw [if_neg (show ¬ nI t = (1 : Int32) from fun z => ht ((nI_eq (b := 1) (by omega) (by decide)).mp z)), zero _ z_fuel (by decide)]
    exact Or.inr ⟨fun z => ht z.1, rfl⟩
theorem w_same : ∀ i : Nat, i < 8 → (wcq 3 i = wcq 19 i ∧ wcq 9 i = wcq 21 i ∧ wcq 10 i = wcq 22 i ∧ wcq 11 i = wcq 23 i ∧ wcq 12 i = wcq 24 i ∧ wcq 13 i = wcq 25 i ∧ wcq 14 i = wcq 26 i ∧ wcq 8 i = wcq 20 i ∧ wcq 4 i = wcq 15 i ∧ wcq 5 i = wcq 16 i ∧ wcq 6 i = wcq 17 i ∧ wcq 7 i = wcq 18 i) := by decide +kernel
theorem N_bad_is {s : Nat} {M : zMM} (hs : 3 ≤ s ∧ s < 27) (h : ¬ M 107 24 = 0) : f_X8_is_107 s M = some ((0 : Int32), M) := by
  unfold f_X8_is_107
  rw [if_pos hs, if_neg h, show z_fuel = 99999 + 1 from rfl]
  unfold f_X8_is_107_p39
  rw [if_pos rfl, if_pos (by decide)]
theorem N_bad_now {x y : Int32} {M : zMM} (h : ¬ M 107 24 = 0) : f_X8_numberNow_107 x y M = some ((0 : Int32), M) := by
  unfold f_X8_numberNow_107
  rw [if_neg h]
theorem N_bad_num {x y : Int32} {M : zMM} (h : ¬ M 107 24 = 0) : f_X8_readNumber_107 x y M = some ((0 : Int32), M) := by
  unfold f_X8_readNumber_107
  rw [N_bad_now h, z_bi_s, if_neg h]
theorem N_bad_wr {x : Int32} {M : zMM} (h : ¬ M 107 24 = 0) : f_X8_wrong_107 x M = some M := by
  unfold f_X8_wrong_107
  rw [if_neg h]
theorem N_bad_one {x : Int32} {M : zMM} (h : ¬ M 107 24 = 0) : f_X8_oneNow_107 x M = some ((0 : Int32), M) ∧ f_X8_readOne_107 x M = some ((0 : Int32), M) := by
  have e : f_X8_oneNow_107 x M = some ((0 : Int32), M) := by
    unfold f_X8_oneNow_107
    rw [N_bad_now h, z_bi_s, if_neg h, if_neg h]
  refine ⟨e, ?_⟩
  unfold f_X8_readOne_107
  rw [e, z_bi_s, if_neg h]
/-- a number is taken, or it is a fault -/
theorem P_num {u : Nat → Nat} {n e b t r lo hi : Nat} {Mc Mm : zMM} (h : LX u n e b t r Mc Mm) (hlo : lo < 2 ^ 31) (hhi : hi < 2 ^ 31) :
    (∃ v b' t' r' Mc' Mm', lo ≤ v ∧ v ≤ hi ∧ b < r ∧ f_X3_takeNumber_79 (nI lo) (nI hi) Mc = some (nI v, Mc') ∧ f_X8_numberNow_107 (nI lo) (nI hi) Mm = some (nI v, Mm) ∧ f_X8_stepOn_107 Mm = some Mm' ∧ LX u n r b' t' r' Mc' Mm' ∧ Mc' 79 7 = nI b ∧ Mc' 79 10 = Mc 79 10) ∨
    (∃ f Mc' Mm', f_X3_takeNumber_79 (nI lo) (nI hi) Mc = some (-1, Mc') ∧ f_X8_numberNow_107 (nI lo) (nI hi) Mm = some ((0 : Int32), Mm') ∧ CJ u n f (nI b) Mc' ∧ MJ f (nI b) Mm' ∧ z_fr ([(107, 24), (107, 25)], []) Mm Mm') := by
  obtain ⟨b', t', r', Mc', Mm', s1, s2, s3⟩ := L_step (LX_7 (x := Mc 79 4) h)
  have h0 := h
  obtain ⟨hn, he, htk, ⟨c1, c2, c3, c4, c5, c6, c7⟩, ⟨m1, m2, m3, m4, m5, m6, m7, m8⟩⟩ := h
  obtain ⟨l1, l2, l3, l4, l5, l6⟩ := tkq_le he htk
  have fault : ∀ f : Int32, f ≠ 0 → CJ u n f (nI b) (z_up (z_up Mc 79 9 f) 79 10 (nI b)) ∧ MJ f (nI b) (z_up (z_up Mm 107 24 f) 107 25 (nI b)) := fun f hf => ⟨⟨hn, c7, c1, ⟨r, l3, c4⟩, hf, rfl, rfl⟩, ⟨rfl, rfl⟩⟩
  have hf7 : ∀ f : Int32, f_X3_fail_79 f (nI b) Mc = some (z_up (z_up Mc 79 9 f) 79 10 (nI b)) := fun f => by
    unfold f_X3_fail_79
    rw [if_pos c6]
  have hf8 : ∀ f : Int32, f_X8_wrong_107 f Mm = some (z_up (z_up Mm 107 24 f) 107 25 (nI b)) := fun f => by
    unfold f_X8_wrong_107
    rw [if_pos m7, m3]
  have p54 : f_X8_numberNow_107_p54 Mm = some ((0 : Int32), z_up (z_up Mm 107 24 (2 : Int32)) 107 25 (nI b)) := by
    unfold f_X8_numberNow_107_p54
    rw [hf8, z_bv_s]
    rfl
  have fr2 : ∀ f : Int32, z_fr ([(107, 24), (107, 25)], []) Mm (z_up (z_up Mm 107 24 f) 107 25 (nI b)) := fun f => (z_fr.refl.up rfl).up rfl
  unfold f_X3_takeNumber_79 f_X8_numberNow_107
  rw [c2, c3, c4, if_pos m7, m2, m3, m5, nI_subq l2 (by omega)]
  by_cases ht : t = 2
  · rw [if_pos (show nI t = (2 : Int32) by rw [ht]; rfl), if_pos (show nI t = (2 : Int32) by rw [ht]; rfl)]
    by_cases hd : 4 < r - b
    · right
      rw [if_pos (show (4 : Int32) < nI (r - b) from nI_lt (a := 4) hd (by omega)), if_pos (show (4 : Int32) < nI (r - b) from nI_lt (a := 4) hd (by omega)), hf7, z_bv_s, p54]
      exact ⟨2, _, _, rfl, rfl, (fault 2 (by decide)).1, (fault 2 (by decide)).2, fr2 2⟩
    · obtain ⟨v1, v2⟩ := c5 ht (by omega)
      rw [if_neg (show ¬ (4 : Int32) < nI (r - b) from nI_nlt (a := 4) (by omega) (by decide)), if_neg (show ¬ (4 : Int32) < nI (r - b) from nI_nlt (a := 4) (by omega) (by decide)), v1, m6 ht (by omega)]
      by_cases g1 : dvq u b (r - b) < lo
      · right
        rw [if_pos (nI_lt g1 hlo), if_pos (nI_lt g1 hlo), hf7, z_bv_s, p54]
        exact ⟨2, _, _, rfl, rfl, (fault 2 (by decide)).1, (fault 2 (by decide)).2, fr2 2⟩
      · rw [if_neg (nI_nlt (by omega) (by omega)), if_neg (nI_nlt (by omega) (by omega))]
        by_cases g2 : dvq u b (r - b) ≤ hi
        · left
          rw [if_pos (nI_le g2 hhi), if_pos (nI_le g2 hhi), if_pos m7]
          refine ⟨dvq u b (r - b), b', t', r', Mc', Mm', by omega, g2, l4 (by omega), ?_, rfl, s2, s3, ?_, R_X3_step_79 s1 79 10 rfl⟩
          · rw [show f_X3_step_79 (z_up Mc 79 7 (nI b)) = some Mc' by rw [← c3]; exact s1, z_bv_s]
          · rw [R_X3_step_79 s1 79 7 rfl, z_up_s, c3]
        · right
          rw [if_neg (nI_ge (by omega) (by omega)), if_neg (nI_ge (by omega) (by omega)), hf7, z_bv_s, p54]
          exact ⟨2, _, _, rfl, rfl, (fault 2 (by decide)).1, (fault 2 (by decide)).2, fr2 2⟩
  · right
    rw [if_neg (show ¬ nI t = (2 : Int32) from fun z => ht ((nI_eq (b := 2) (by omega) (by decide)).mp z)), if_neg (show ¬ nI t = (2 : Int32) from fun z => ht ((nI_eq (b := 2) (by omega) (by decide)).mp z)), hf7, z_bv_s, hf8, z_bv_s]
    refine ⟨1, _, _, rfl, ?_, (fault 1 (by decide)).1, (fault 1 (by decide)).2, fr2 1⟩
    rfl
