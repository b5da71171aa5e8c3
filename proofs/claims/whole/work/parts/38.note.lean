/-! ===== what can be undone: the model's entry ===== -/
def nt (M : zMM) (u : Nat) (x p c : Int32) : zMM := z_up (z_up (z_up (z_up (z_up (z_up (z_up M 130 u x) 131 u p) 132 u c) 133 u (M 107 29)) 134 u (M 107 30)) 135 u (M 107 33)) 107 31 (nI (u + 1))
theorem e_p119 {M : zMM} {u : Nat} {x : Int32} (hu : M 107 31 = nI u) (hu1 : u < 100) (hz : z_zb (M 107 33) = true) (hx : x = -1 ∨ ∃ t, t < 5 ∧ x = nI t) : f_X8_note_107_p119 x M = some (nt M u x (if x = -1 then 0 else M 124 x.toNatClampNeg) (if x = -1 then 0 else M 125 x.toNatClampNeg)) := by
  have hib : z_ib (nI u) 100 = true := z_ib_n (by decide) hu1
  have h176 : ∀ (X : zMM) (c : Int32), X 107 31 = nI u → X 107 33 = M 107 33 → X 107 29 = M 107 29 → X 107 30 = M 107 30 → f_X8_note_107_p176 c (nI u) X = some (z_up (z_up (z_up (z_up (z_up X 132 u c) 133 u (M 107 29)) 134 u (M 107 30)) 135 u (M 107 33)) 107 31 (nI (u + 1))) := by
    intro X c h1 h2 h3 h4
    unfold f_X8_note_107_p176
    rw [h1, h2, h3, h4, if_pos hib, if_pos hib, if_pos hib, if_pos hz, if_pos hib, nI_clamp (by omega), nI_1]
  have h152 : ∀ (X : zMM) (p : Int32), X 107 31 = nI u → X 107 33 = M 107 33 → X 107 29 = M 107 29 → X 107 30 = M 107 30 → (∀ b, X 125 b = M 125 b) → f_X8_note_107_p152 x p (nI u) X = some (z_up (z_up (z_up (z_up (z_up (z_up X 131 u p) 132 u (if x = -1 then 0 else M 125 x.toNatClampNeg)) 133 u (M 107 29)) 134 u (M 107 30)) 135 u (M 107 33)) 107 31 (nI (u + 1))) := by
    intro X p h1 h2 h3 h4 h5
    unfold f_X8_note_107_p152
    rw [if_pos hib, h1, nI_clamp (by omega)]
    rcases hx with rfl | ⟨t, ht, rfl⟩
    · rw [if_pos rfl, if_pos rfl]
      exact h176 _ _ h1 h2 h3 h4
    · have hne : ¬ nI t = -1 := by
        intro q
        have := congrArg Int32.toInt q
        rw [nI_toInt (by omega)] at this
        have h : (-1 : Int32).toInt = -1 := rfl
        omega
      rw [if_neg hne, if_neg hne, if_pos (z_ib_n (by decide) ht), h5]
      exact h176 _ _ h1 h2 h3 h4
  unfold f_X8_note_107_p119
  rw [hu, if_pos hib, nI_clamp (by omega)]
  rcases hx with rfl | ⟨t, ht, rfl⟩
  · rw [if_pos rfl, if_pos rfl]
    exact h152 _ _ hu rfl rfl rfl (fun _ => rfl)
  · have hne : ¬ nI t = -1 := by
      intro q
      have := congrArg Int32.toInt q
      rw [nI_toInt (by omega)] at this
      have h : (-1 : Int32).toInt = -1 := rfl
      omega
    rw [if_neg hne, if_neg hne, if_pos (z_ib_n (by decide) ht)]
    exact h152 _ _ hu rfl rfl rfl (fun _ => rfl)
def sh6 (M : zMM) (j : Nat) : zMM := z_up (z_up (z_up (z_up (z_up (z_up M 130 j (M 130 (j + 1))) 131 j (M 131 (j + 1))) 132 j (M 132 (j + 1))) 133 j (M 133 (j + 1))) 134 j (M 134 (j + 1))) 135 j (M 135 (j + 1))
def shf (M : zMM) (j : Nat) : zMM := fun a b => if 130 ≤ a ∧ a ≤ 135 then (if j ≤ b ∧ b < 99 then M a (b + 1) else M a b) else M a b
theorem shf_end {M : zMM} : shf M 99 = M := by
  funext a b
  unfold shf
  by_cases ha : 130 ≤ a ∧ a ≤ 135
  · rw [if_pos ha, if_neg (by omega)]
  · rw [if_neg ha]
theorem sh6_in {M : zMM} {j a : Nat} (ha : 130 ≤ a ∧ a ≤ 135) (c : Nat) : sh6 M j a c = if c = j then M a (j + 1) else M a c := by
  have : a = 130 ∨ a = 131 ∨ a = 132 ∨ a = 133 ∨ a = 134 ∨ a = 135 := by omega
  rcases this with rfl | rfl | rfl | rfl | rfl | rfl <;> rfl
theorem sh6_out {M : zMM} {j a : Nat} (ha : ¬ (130 ≤ a ∧ a ≤ 135)) (c : Nat) : sh6 M j a c = M a c := by
  unfold sh6
  rw [z_up_o (by omega), z_up_o (by omega), z_up_o (by omega), z_up_o (by omega), z_up_o (by omega), z_up_o (by omega)]
theorem shf_step {M : zMM} {j : Nat} (hj : j < 99) : shf (sh6 M j) (j + 1) = shf M j := by
  funext a b
  unfold shf
  by_cases ha : 130 ≤ a ∧ a ≤ 135
  · rw [if_pos ha, if_pos ha, sh6_in ha, sh6_in ha]
    by_cases hb : j + 1 ≤ b ∧ b < 99
    · rw [if_pos hb, if_neg (by omega), if_pos (by omega)]
    · rw [if_neg hb]
      by_cases hbj : b = j
      · rw [if_pos hbj, if_pos (by omega), hbj]
      · rw [if_neg hbj, if_neg (by omega)]
  · rw [if_neg ha, if_neg ha, sh6_out ha]
theorem e_p11 {x : Int32} : ∀ (k j : Nat), j + k = 99 → ∀ (n : Nat) (M : zMM), k < n → (∀ i, i < 100 → z_zb (M 135 i) = true) → f_X8_note_107_p11 n x (nI j) M = f_X8_note_107_p119 x (z_up (shf M j) 107 31 (M 107 31 - 1)) := by
  intro k
  induction k with
  | zero =>
    intro j hj n M hn hz
    obtain ⟨n, rfl⟩ : ∃ m, n = m + 1 := ⟨n - 1, by omega⟩
    have : j = 99 := by omega
    subst this
    rw [shf_end]
    exact if_pos (show (100 : Int32) ≤ nI 99 + 1 by decide)
  | succ k ih =>
    intro j hj n M hn hz
    obtain ⟨n, rfl⟩ : ∃ m, n = m + 1 := ⟨n - 1, by omega⟩
    have i1 : z_ib (nI (j + 1)) 100 = true := z_ib_n (by decide) (by omega)
    have i0 : z_ib (nI j) 100 = true := z_ib_n (by decide) (by omega)
    have e0 : ∀ r, f_X8_note_107_p11 n x (nI (j + 1)) (sh6 M j) = r → f_X8_note_107_p11 (n + 1) x (nI j) M = r := by
      intro r hr
      unfold f_X8_note_107_p11
      rw [nI_1, if_neg (show ¬ (100 : Int32) ≤ nI (j + 1) from nI_ge (b := 100) (by omega) (by decide))]
      simp only [if_pos i1, if_pos i0, nI_clamp (show j < 2 ^ 31 by omega), nI_clamp (show j + 1 < 2 ^ 31 by omega), if_pos (hz (j + 1) (by omega))]
      exact hr
    have e := e0 _ rfl
    rw [e, ih (j + 1) (by omega) n (sh6 M j) (by omega) (fun i hi => ?_), shf_step (by omega)]
    · rw [sh6_out (by omega)]
    · rw [sh6_in (by omega)]
      by_cases h : i = j
      · rw [if_pos h]; exact hz (j + 1) (by omega)
      · rw [if_neg h]; exact hz i hi
