/-! ===== what can be undone: the class's row ===== -/
theorem nI_mul (a b : Nat) : nI a * nI b = nI (a * b) := (Int32.ofNat_mul a b).symm
def kw (r : Nat) : Nat → Nat → zMM → zMM
  | 0, _, M => M
  | k + 1, t, M => kw r k (t + 1) (z_up (z_up M 102 (13 * r + 3 + 2 * t) (M 88 t)) 102 (13 * r + 4 + 2 * t) (M 89 t))
theorem e_p98 {r : Nat} (hr : r < 100) : ∀ (k t : Nat), t + k = 5 → ∀ (n : Nat) (M : zMM), k < n → f_X0_keep_101_87_p98 n (nI (13 * r)) (nI t) M = some (kw r k t M) := by
  intro k
  induction k with
  | zero =>
    intro t ht n M hn
    obtain ⟨n, rfl⟩ : ∃ m, n = m + 1 := ⟨n - 1, by omega⟩
    have : t = 5 := by omega
    subst this
    exact if_pos (show (5 : Int32) ≤ nI 5 by decide)
  | succ k ih =>
    intro t ht n M hn
    obtain ⟨n, rfl⟩ : ∃ m, n = m + 1 := ⟨n - 1, by omega⟩
    have e : f_X0_keep_101_87_p98 (n + 1) (nI (13 * r)) (nI t) M = if (5 : Int32) ≤ nI t then some M else z_bv (some (z_pt M 102 1300 ((nI (13 * r) + (3 : Int32)) + ((2 : Int32) * nI t)) (z_at M 88 5 (nI t)))) fun M11 => z_bv (some (z_pt M11 102 1300 ((nI (13 * r) + (4 : Int32)) + ((2 : Int32) * nI t)) (z_at M11 89 5 (nI t)))) fun M13 => f_X0_keep_101_87_p98 n (nI (13 * r)) (nI t + (1 : Int32)) M13 := rfl
    rw [e, if_neg (show ¬ (5 : Int32) ≤ nI t from nI_ge (b := 5) (by omega) (by decide))]
    rw [show (2 : Int32) * nI t = nI (2 * t) from nI_mul 2 t, show nI (13 * r) + (3 : Int32) = nI (13 * r + 3) from nI_add _ 3, show nI (13 * r) + (4 : Int32) = nI (13 * r + 4) from nI_add _ 4, nI_add, nI_add, z_pt_nI (by decide) (by omega), z_bv_s, z_at_nI (by decide) (by omega), z_at_nI (by decide) (by omega), z_pt_nI (by decide) (by omega), z_bv_s, nI_1]
    exact ih (t + 1) (by omega) n _ (by omega)
theorem e_keep {M : zMM} {w s : Nat} (hw : M 101 1 = nI w) (hw1 : w < 100) (hs : M 101 2 = nI s) (hs1 : s ≤ 100) : ∃ (M' : zMM) (r : Nat), f_X0_keep_101_87 M = some M' ∧ r = (w + 1) % 100 ∧ M' 101 1 = nI r ∧ M' 101 2 = nI (min (s + 1) 100) ∧ M' 102 (13 * r) = M 87 2 ∧ M' 102 (13 * r + 1) = (if M 87 3 = 0 then (0 : Int32) else 1) ∧ M' 102 (13 * r + 2) = M 87 4 ∧ (∀ t, t < 5 → M' 102 (13 * r + (3 + 2 * t)) = M 88 t ∧ M' 102 (13 * r + (4 + 2 * t)) = M 89 t) ∧ ∀ b, b < 13 * r ∨ 13 * r + 13 ≤ b → M' 102 b = M 102 b := by
  obtain ⟨r, hr⟩ : ∃ r, r = (w + 1) % 100 := ⟨_, rfl⟩
  have hr1 : r < 100 := by omega
  have e1 : f_X0_keep_101_87 M = f_X0_keep_101_87_p22 (nI r) M := by
    unfold f_X0_keep_101_87
    rw [hw, nI_1]
    by_cases h : w = 99
    · rw [if_pos (show (100 : Int32) ≤ nI (w + 1) from nI_le (a := 100) (by omega) (by omega))]
      have : r = 0 := by omega
      rw [this]; rfl
    · rw [if_neg (show ¬ (100 : Int32) ≤ nI (w + 1) from nI_ge (b := 100) (by omega) (by decide))]
      have : r = w + 1 := by omega
      rw [this]
  have hmin : z_min (M 101 2 + (1 : Int32)) (100 : Int32) = nI (min (s + 1) 100) := by
    rw [hs, nI_1]
    unfold z_min
    by_cases h : s = 100
    · rw [if_pos (show (100 : Int32) < nI (s + 1) from nI_lt (a := 100) (by omega) (by omega)), show min (s + 1) 100 = 100 by omega]; rfl
    · rw [if_neg (show ¬ (100 : Int32) < nI (s + 1) from nI_nlt (a := 100) (by omega) (by decide)), show min (s + 1) 100 = s + 1 by omega]
  have e2 : f_X0_keep_101_87_p22 (nI r) M = some (kw r 5 0 (z_up (z_up (z_up (z_up (z_up M 101 1 (nI r)) 101 2 (nI (min (s + 1) 100))) 102 (13 * r) (M 87 2)) 102 (13 * r + 1) (if M 87 3 = 0 then (0 : Int32) else 1)) 102 (13 * r + 2) (M 87 4))) := by
    unfold f_X0_keep_101_87_p22
    rw [hmin, show nI r * (13 : Int32) = nI (13 * r) by rw [Nat.mul_comm]; exact nI_mul r 13, z_pt_nI (by decide) (by omega), z_bv_s, show nI (13 * r) + (1 : Int32) = nI (13 * r + 1) from nI_add _ 1]
    have e3 : ∀ (v : Int32) (X : zMM), X 87 4 = M 87 4 → f_X0_keep_101_87_p79 (nI (13 * r)) v (nI (13 * r + 1)) X = some (kw r 5 0 (z_up (z_up X 102 (13 * r + 1) v) 102 (13 * r + 2) (M 87 4))) := by
      intro v X hX
      unfold f_X0_keep_101_87_p79
      rw [z_pt_nI (by decide) (by omega), z_bv_s, show nI (13 * r) + (2 : Int32) = nI (13 * r + 2) from nI_add _ 2, z_pt_nI (by decide) (by omega), z_bv_s, show z_up X 102 (13 * r + 1) v 87 4 = M 87 4 from hX]
      exact e_p98 hr1 5 0 rfl z_fuel _ (by decide)
    by_cases h : M 87 3 = 0
    · rw [if_pos (show z_up (z_up (z_up M 101 1 (nI r)) 101 2 (nI (min (s + 1) 100))) 102 (13 * r) (M 87 2) 87 3 = 0 from h), if_pos h]
      exact e3 _ _ rfl
    · rw [if_neg (show ¬ z_up (z_up (z_up M 101 1 (nI r)) 101 2 (nI (min (s + 1) 100))) 102 (13 * r) (M 87 2) 87 3 = 0 from h), if_neg h]
      exact e3 _ _ rfl
  refine ⟨_, r, e1.trans e2, hr, rfl, rfl, ?_, ?_, ?_, ?_, ?_⟩
  · simp [kw, z_up, Nat.add_assoc]
  · simp [kw, z_up]
  · simp [kw, z_up]
  · intro t ht
    have : t = 0 ∨ t = 1 ∨ t = 2 ∨ t = 3 ∨ t = 4 := by omega
    rcases this with rfl | rfl | rfl | rfl | rfl <;> constructor <;> simp [kw, z_up, Nat.add_assoc]
  · intro b hb
    simp only [kw, z_up, if_true]
    repeat rw [if_neg (by omega)]
