/-! ===== told: the tokens ===== -/
def cB (u : Nat → Nat) (n : Nat) (M : zMM) : Prop := ∀ i, i < n → u i < 256 ∧ ((u i < 128 ∧ M 52 i = nI (u i)) ∨ (128 ≤ u i ∧ M 52 i < 0))
def mB (u : Nat → Nat) (n : Nat) (M : zMM) : Prop := ∀ i, i < n → u i < 256 ∧ M 123 i = nI (u i)
def scq (p : Nat → Prop) (n : Nat) : Nat → Nat → Nat → Prop
  | 0, e, r => r = e
  | k + 1, e, r => (e < n ∧ p e ∧ scq p n k (e + 1) r) ∨ (¬ (e < n ∧ p e) ∧ r = e)
theorem sc_le {p : Nat → Prop} {n : Nat} : ∀ {k e r}, scq p n k e r → e ≤ r ∧ (e ≤ n → r ≤ n) := by
  intro k
  induction k with
  | zero => intro e r h; rw [show r = e from h]; exact ⟨Nat.le_refl _, id⟩
  | succ k ih =>
    intro e r h
    rcases h with ⟨h1, h2, h3⟩ | ⟨-, h⟩
    · obtain ⟨a, b⟩ := ih h3
      exact ⟨by omega, fun _ => b (by omega)⟩
    · rw [h]; exact ⟨Nat.le_refl _, id⟩
theorem sc_inj {p : Nat → Prop} {n : Nat} : ∀ {k e r s}, scq p n k e r → scq p n k e s → r = s := by
  intro k
  induction k with
  | zero => intro e r s h g; rw [show r = e from h, show s = e from g]
  | succ k ih =>
    intro e r s h g
    rcases h with ⟨h1, h2, h3⟩ | ⟨h1, h2⟩ <;> rcases g with ⟨g1, g2, g3⟩ | ⟨g1, g2⟩
    · exact ih h3 g3
    · exact absurd ⟨h1, h2⟩ g1
    · exact absurd ⟨g1, g2⟩ h1
    · rw [h2, g2]
def blq (u : Nat → Nat) : Nat → Prop := fun i => u i = 32 ∨ u i = 10
def leq (u : Nat → Nat) : Nat → Prop := fun i => 97 ≤ u i ∧ u i ≤ 122
def diq (u : Nat → Nat) : Nat → Prop := fun i => 48 ≤ u i ∧ u i ≤ 57
def dvq (u : Nat → Nat) (b : Nat) : Nat → Nat
  | 0 => 0
  | d + 1 => 10 * dvq u b d + (u (b + d) - 48)
/-- a token: where it begins, its kind, where it ends -/
def tkq (u : Nat → Nat) (n e b t r : Nat) : Prop := scq (blq u) n (n - e) e b ∧ ((n ≤ b ∧ t = 0 ∧ r = b) ∨ (b < n ∧ leq u b ∧ t = 1 ∧ scq (leq u) n (n - b) b r) ∨ (b < n ∧ ¬ leq u b ∧ diq u b ∧ t = 2 ∧ scq (diq u) n (n - b) b r) ∨ (b < n ∧ ¬ leq u b ∧ ¬ diq u b ∧ r = b + 1 ∧ ((u b = 59 ∧ t = 3) ∨ (u b ≠ 59 ∧ t = 4))))
theorem tk_inj {u : Nat → Nat} {n e b t r b' t' r' : Nat} (h : tkq u n e b t r) (g : tkq u n e b' t' r') : b = b' ∧ t = t' ∧ r = r' := by
  obtain ⟨h1, h2⟩ := h
  obtain ⟨g1, g2⟩ := g
  have hb := sc_inj h1 g1
  rw [← hb] at g2
  rcases h2 with ⟨a1, a2, a3⟩ | ⟨a1, a2, a3, a4⟩ | ⟨a1, a2, a3, a4, a5⟩ | ⟨a1, a2, a3, a4, a5⟩ <;> rcases g2 with ⟨b1, b2, b3⟩ | ⟨b1, b2, b3, b4⟩ | ⟨b1, b2, b3, b4, b5⟩ | ⟨b1, b2, b3, b4, b5⟩
  · exact ⟨hb, by omega, by omega⟩
  · omega
  · omega
  · omega
  · omega
  · exact ⟨hb, by omega, sc_inj a4 b4⟩
  · exact absurd a2 b2
  · exact absurd a2 b2
  · omega
  · exact absurd b2 a2
  · exact ⟨hb, by omega, sc_inj a5 b5⟩
  · exact absurd a3 b3
  · omega
  · exact absurd b2 a2
  · exact absurd b3 a3
  · refine ⟨hb, ?_, by omega⟩
    rcases a5 with ⟨c1, c2⟩ | ⟨c1, c2⟩ <;> rcases b5 with ⟨d1, d2⟩ | ⟨d1, d2⟩ <;> omega
theorem tkq_le {u : Nat → Nat} {n e b t r : Nat} (he : e ≤ n) (h : tkq u n e b t r) : e ≤ b ∧ b ≤ r ∧ r ≤ n ∧ (t ≠ 0 → b < r) ∧ t ≤ 4 ∧ (t = 0 → r = n) := by
  obtain ⟨h1, h2⟩ := h
  obtain ⟨s1, s2⟩ := sc_le h1
  have s2 := s2 he
  rcases h2 with ⟨a1, a2, a3⟩ | ⟨a1, a2, a3, a4⟩ | ⟨a1, a2, a3, a4, a5⟩ | ⟨a1, a2, a3, a4, a5⟩
  · exact ⟨s1, by omega, by omega, fun z => absurd a2 z, by omega, fun _ => by omega⟩
  · obtain ⟨c1, c2⟩ := sc_le a4
    have c2 := c2 (by omega)
    have c3 : b < r := by
      rw [show n - b = (n - (b + 1)) + 1 by omega] at a4
      rcases a4 with ⟨-, -, q⟩ | ⟨q, -⟩
      · have := (sc_le q).1; omega
      · exact absurd ⟨a1, a2⟩ q
    exact ⟨s1, by omega, by omega, fun _ => c3, by omega, fun z => by omega⟩
  · obtain ⟨c1, c2⟩ := sc_le a5
    have c2 := c2 (by omega)
    have c3 : b < r := by
      rw [show n - b = (n - (b + 1)) + 1 by omega] at a5
      rcases a5 with ⟨-, -, q⟩ | ⟨q, -⟩
      · have := (sc_le q).1; omega
      · exact absurd ⟨a1, a3⟩ q
    exact ⟨s1, by omega, by omega, fun _ => c3, by omega, fun z => by omega⟩
  · refine ⟨s1, by omega, by omega, fun _ => by omega, ?_, ?_⟩
    · rcases a5 with ⟨-, q⟩ | ⟨-, q⟩ <;> omega
    · intro z; rcases a5 with ⟨-, q⟩ | ⟨-, q⟩ <;> omega
/-! bytes on both sides -/
theorem e_by7 {u : Nat → Nat} {n : Nat} {M : zMM} (hB : cB u n M) (hn : n ≤ 700) {i : Nat} (hi : i < n) : f_X3_byteAt_79 (nI i) M = some (M 52 i, M) := by
  unfold f_X3_byteAt_79
  rw [if_neg (nI_pos (by omega)), if_neg (show ¬ (700 : Int32) ≤ nI i from nI_ge (b := 700) (by omega) (by decide)), if_pos (z_ib_n (by decide) (by omega)), nI_clamp (by omega)]
theorem e_byT {x : Int32} {M : zMM} : ∃ v, f_X3_byteAt_79 x M = some (v, M) := by
  unfold f_X3_byteAt_79
  by_cases h0 : x < 0
  · rw [if_pos h0]; exact ⟨_, rfl⟩
  · rw [if_neg h0]
    obtain ⟨j, hj, rfl⟩ := nI_of h0
    by_cases h1 : (700 : Int32) ≤ nI j
    · rw [if_pos h1]; exact ⟨_, rfl⟩
    · have : j < 700 := by
        apply Nat.not_le.mp
        intro z
        exact h1 (nI_le (a := 700) z hj)
      rw [if_neg h1, if_pos (z_ib_n (by decide) this)]; exact ⟨_, rfl⟩
theorem e_by8 {u : Nat → Nat} {n : Nat} {M : zMM} (hB : mB u n M) (hn : n ≤ 700) (hz : M 107 19 = nI n) {i : Nat} (hi : i ≤ n) : f_X8_byteAt_107 (nI i) M = some (if i < n then nI (u i) else -1, M) := by
  unfold f_X8_byteAt_107
  rw [hz]
  by_cases h : i < n
  · rw [if_pos h, if_neg (nI_ge h (by omega)), if_pos (z_ib_n (by decide) (by omega)), nI_clamp (by omega), (hB i h).2]
  · rw [if_neg h, if_pos (nI_le (by omega) (by omega))]
theorem neg_lt {x : Int32} (h : x < 0) {k : Nat} (hk : k < 2 ^ 31) : x < nI k ∧ ¬ nI k < x ∧ x ≠ nI k := by
  rw [Int32.lt_iff_toInt_lt] at h ⊢
  rw [Int32.lt_iff_toInt_lt, nI_toInt hk]
  have e0 : (0 : Int32).toInt = 0 := rfl
  refine ⟨by omega, by omega, fun q => ?_⟩
  have := congrArg Int32.toInt q
  rw [nI_toInt hk] at this
  omega
theorem e_let7 {u : Nat → Nat} {n : Nat} {M M' : zMM} (hB : cB u n M) {i : Nat} (hi : i < n) : (leq u i ∧ f_X3_isLetter (M 52 i) M' = some ((1 : Int32), M')) ∨ (¬ leq u i ∧ f_X3_isLetter (M 52 i) M' = some ((0 : Int32), M')) := by
  obtain ⟨h1, h2⟩ := hB i hi
  unfold f_X3_isLetter leq
  rcases h2 with ⟨h2, h3⟩ | ⟨h2, h3⟩
  · rw [h3]
    by_cases a : u i < 97
    · right; rw [if_pos (show nI (u i) < (97 : Int32) from nI_lt (b := 97) a (by decide))]; exact ⟨by omega, rfl⟩
    · rw [if_neg (show ¬ nI (u i) < (97 : Int32) from nI_nlt (b := 97) (by omega) (by omega))]
      by_cases b : 122 < u i
      · right; rw [if_pos (show (122 : Int32) < nI (u i) from nI_lt (a := 122) b (by omega))]; exact ⟨by omega, rfl⟩
      · left; rw [if_neg (show ¬ (122 : Int32) < nI (u i) from nI_nlt (a := 122) (by omega) (by decide))]; exact ⟨by omega, rfl⟩
  · right
    rw [if_pos (show M 52 i < (97 : Int32) from (neg_lt h3 (k := 97) (by decide)).1)]
    exact ⟨by omega, rfl⟩
theorem e_dig7 {u : Nat → Nat} {n : Nat} {M M' : zMM} (hB : cB u n M) {i : Nat} (hi : i < n) : (diq u i ∧ f_X3_isDigit (M 52 i) M' = some ((1 : Int32), M')) ∨ (¬ diq u i ∧ f_X3_isDigit (M 52 i) M' = some ((0 : Int32), M')) := by
  obtain ⟨h1, h2⟩ := hB i hi
  unfold f_X3_isDigit diq
  rcases h2 with ⟨h2, h3⟩ | ⟨h2, h3⟩
  · rw [h3]
    by_cases a : u i < 48
    · right; rw [if_pos (show nI (u i) < (48 : Int32) from nI_lt (b := 48) a (by decide))]; exact ⟨by omega, rfl⟩
    · rw [if_neg (show ¬ nI (u i) < (48 : Int32) from nI_nlt (b := 48) (by omega) (by omega))]
      by_cases b : 57 < u i
      · right; rw [if_pos (show (57 : Int32) < nI (u i) from nI_lt (a := 57) b (by omega))]; exact ⟨by omega, rfl⟩
      · left; rw [if_neg (show ¬ (57 : Int32) < nI (u i) from nI_nlt (a := 57) (by omega) (by decide))]; exact ⟨by omega, rfl⟩
  · right
    rw [if_pos (show M 52 i < (48 : Int32) from (neg_lt h3 (k := 48) (by decide)).1)]
    exact ⟨by omega, rfl⟩
theorem e_bla7 {u : Nat → Nat} {n : Nat} {M M' : zMM} (hB : cB u n M) {i : Nat} (hi : i < n) : (blq u i ∧ f_X3_isBlank (M 52 i) M' = some ((1 : Int32), M')) ∨ (¬ blq u i ∧ f_X3_isBlank (M 52 i) M' = some ((0 : Int32), M')) := by
  obtain ⟨h1, h2⟩ := hB i hi
  unfold f_X3_isBlank blq
  rcases h2 with ⟨h2, h3⟩ | ⟨h2, h3⟩
  · rw [h3]
    by_cases a : u i = 32
    · left; rw [if_pos (show nI (u i) = (32 : Int32) by rw [a]; rfl)]; exact ⟨Or.inl a, rfl⟩
    · rw [if_neg (show ¬ nI (u i) = (32 : Int32) from fun z => a ((nI_eq (b := 32) (by omega) (by decide)).mp z))]
      by_cases b : u i = 10
      · left; rw [if_pos (show nI (u i) = (10 : Int32) by rw [b]; rfl)]; exact ⟨Or.inr b, rfl⟩
      · right; rw [if_neg (show ¬ nI (u i) = (10 : Int32) from fun z => b ((nI_eq (b := 10) (by omega) (by decide)).mp z))]; exact ⟨fun z => z.elim a b, rfl⟩
  · right
    rw [if_neg (show ¬ M 52 i = (32 : Int32) from (neg_lt h3 (k := 32) (by decide)).2.2), if_neg (show ¬ M 52 i = (10 : Int32) from (neg_lt h3 (k := 10) (by decide)).2.2)]
    exact ⟨by omega, rfl⟩
theorem e_let8 {v : Nat} {M : zMM} (hv : v < 256) : (97 ≤ v ∧ v ≤ 122 ∧ f_X8_isLetter (nI v) M = some ((1 : Int32), M)) ∨ (¬ (97 ≤ v ∧ v ≤ 122) ∧ f_X8_isLetter (nI v) M = some ((0 : Int32), M)) := by
  unfold f_X8_isLetter
  by_cases a : v < 97
  · right; rw [if_pos (show nI v < (97 : Int32) from nI_lt (b := 97) a (by decide))]; exact ⟨by omega, rfl⟩
  · rw [if_neg (show ¬ nI v < (97 : Int32) from nI_nlt (b := 97) (by omega) (by omega))]
    by_cases b : 122 < v
    · right; rw [if_pos (show (122 : Int32) < nI v from nI_lt (a := 122) b (by omega))]; exact ⟨by omega, rfl⟩
    · left; rw [if_neg (show ¬ (122 : Int32) < nI v from nI_nlt (a := 122) (by omega) (by decide))]; exact ⟨by omega, by omega, rfl⟩
theorem e_dig8 {v : Nat} {M : zMM} (hv : v < 256) : (48 ≤ v ∧ v ≤ 57 ∧ f_X8_isDigit (nI v) M = some ((1 : Int32), M)) ∨ (¬ (48 ≤ v ∧ v ≤ 57) ∧ f_X8_isDigit (nI v) M = some ((0 : Int32), M)) := by
  unfold f_X8_isDigit
  by_cases a : v < 48
  · right; rw [if_pos (show nI v < (48 : Int32) from nI_lt (b := 48) a (by decide))]; exact ⟨by omega, rfl⟩
  · rw [if_neg (show ¬ nI v < (48 : Int32) from nI_nlt (b := 48) (by omega) (by omega))]
    by_cases b : 57 < v
    · right; rw [if_pos (show (57 : Int32) < nI v from nI_lt (a := 57) b (by omega))]; exact ⟨by omega, rfl⟩
    · left; rw [if_neg (show ¬ (57 : Int32) < nI v from nI_nlt (a := 57) (by omega) (by decide))]; exact ⟨by omega, by omega, rfl⟩
/-! the class's step -/
theorem e_word7 {u : Nat → Nat} {n : Nat} (hn : n ≤ 700) : ∀ k e, e + k = n → ∀ fu M, k < fu → cB u n M → M 79 2 = nI n → M 79 5 = nI e → ∃ r M', f_X3_step_79_p91 fu M = some M' ∧ scq (leq u) n k e r ∧ M' 79 5 = nI r ∧ z_fr ([(79, 5)], []) M M' := by
  intro k
  induction k with
  | zero =>
    intro e he fu M hfu hB h2 h5
    obtain ⟨fu, rfl⟩ : ∃ m, fu = m + 1 := ⟨fu - 1, by omega⟩
    refine ⟨e, M, ?_, rfl, h5, z_fr.refl⟩
    unfold f_X3_step_79_p91
    rw [h2, h5, if_pos (nI_le (by omega) (by omega))]
  | succ k ih =>
    intro e he fu M hfu hB h2 h5
    obtain ⟨fu, rfl⟩ : ∃ m, fu = m + 1 := ⟨fu - 1, by omega⟩
    unfold f_X3_step_79_p91
    rw [h2, h5, if_neg (nI_ge (by omega) (by omega)), e_by7 hB hn (by omega), z_bi_s]
    rcases e_let7 (M' := M) hB (show e < n by omega) with ⟨a, e1⟩ | ⟨a, e1⟩
    · rw [e1, z_bi_s, if_neg (by decide), h5, nI_1]
      obtain ⟨r, M', g1, g2, g3, g4⟩ := ih (e + 1) (by omega) fu (z_up M 79 5 (nI (e + 1))) (by omega) hB h2 z_up_s
      exact ⟨r, M', g1, Or.inl ⟨by omega, a, g2⟩, g3, (z_fr.refl.up rfl).trans g4⟩
    · rw [e1, z_bi_s, if_pos rfl]
      exact ⟨e, M, rfl, Or.inr ⟨fun z => a z.2, rfl⟩, h5, z_fr.refl⟩
theorem e_num7 {u : Nat → Nat} {n b : Nat} (hn : n ≤ 700) : ∀ k e, e + k = n → b ≤ e → ∀ fu M, k < fu → cB u n M → M 79 2 = nI n → M 79 4 = nI b → M 79 5 = nI e → (e - b ≤ 4 → M 79 6 = nI (dvq u b (e - b)) ∧ dvq u b (e - b) < 10 ^ (e - b)) → ∃ r M', f_X3_step_79_p141 fu M = some M' ∧ scq (diq u) n k e r ∧ M' 79 5 = nI r ∧ (r - b ≤ 4 → M' 79 6 = nI (dvq u b (r - b)) ∧ dvq u b (r - b) < 10 ^ (r - b)) ∧ z_fr ([(79, 5), (79, 6)], []) M M' := by
  intro k
  induction k with
  | zero =>
    intro e he hb fu M hfu hB h2 h4 h5 h6
    obtain ⟨fu, rfl⟩ : ∃ m, fu = m + 1 := ⟨fu - 1, by omega⟩
    refine ⟨e, M, ?_, rfl, h5, h6, z_fr.refl⟩
    unfold f_X3_step_79_p141
    rw [h2, h5, if_pos (nI_le (by omega) (by omega))]
  | succ k ih =>
    intro e he hb fu M hfu hB h2 h4 h5 h6
    obtain ⟨fu, rfl⟩ : ∃ m, fu = m + 1 := ⟨fu - 1, by omega⟩
    unfold f_X3_step_79_p141
    rw [h2, h5, if_neg (nI_ge (by omega) (by omega)), e_by7 hB hn (by omega), z_bi_s]
    rcases e_dig7 (M' := M) hB (show e < n by omega) with ⟨a, e1⟩ | ⟨a, e1⟩
    · rw [e1, z_bi_s, if_neg (by decide), h4, h5, nI_subq hb (by omega), e_by7 hB hn (by omega), z_bi_s, h5, nI_1]
      by_cases hd : 4 ≤ e - b
      · rw [if_pos (show (4 : Int32) ≤ nI (e - b) from nI_le (a := 4) hd (by omega))]
        obtain ⟨r, M', g1, g2, g3, g4, g5⟩ := ih (e + 1) (by omega) (by omega) fu (z_up (z_up M 79 6 (M 79 6)) 79 5 (nI (e + 1))) (by omega) hB h2 h4 z_up_s (fun z => by omega)
        exact ⟨r, M', g1, Or.inl ⟨by omega, a, g2⟩, g3, g4, ((z_fr.refl.up rfl).up rfl).trans g5⟩
      · rw [if_neg (show ¬ (4 : Int32) ≤ nI (e - b) from nI_ge (b := 4) (by omega) (by decide))]
        obtain ⟨q1, q2⟩ := h6 (by omega)
        have hu : M 52 e = nI (u e) := by
          obtain ⟨-, z⟩ := hB e (by omega)
          obtain ⟨z1, z2⟩ := a
          rcases z with ⟨-, z⟩ | ⟨z, -⟩
          · exact z
          · omega
        have hp : 10 ^ (e - b) ≤ 10 ^ 3 := Nat.pow_le_pow_right (by decide) (by omega)
        obtain ⟨z1, z2⟩ := a
        have e10 : dvq u b (e + 1 - b) = 10 * dvq u b (e - b) + (u e - 48) := by
          rw [show e + 1 - b = (e - b) + 1 by omega]
          show 10 * dvq u b (e - b) + (u (b + (e - b)) - 48) = _
          rw [show b + (e - b) = e by omega]
        have eval : (M 79 6 * (10 : Int32) + M 52 e) - (48 : Int32) = nI (dvq u b (e + 1 - b)) := by
          rw [q1, hu, show nI (dvq u b (e - b)) * (10 : Int32) = nI (dvq u b (e - b) * 10) from nI_mul _ 10, nI_add, show nI (dvq u b (e - b) * 10 + u e) - (48 : Int32) = nI (dvq u b (e - b) * 10 + u e - 48) from nI_subq (b := 48) (by omega) (by omega), e10, show dvq u b (e - b) * 10 + u e - 48 = 10 * dvq u b (e - b) + (u e - 48) by omega]
        rw [eval]
        obtain ⟨r, M', g1, g2, g3, g4, g5⟩ := ih (e + 1) (by omega) (by omega) fu (z_up (z_up M 79 6 (nI (dvq u b (e + 1 - b)))) 79 5 (nI (e + 1))) (by omega) hB h2 h4 z_up_s (fun _ => ⟨by rw [z_up_n (by decide), z_up_s], by
          rw [e10, show e + 1 - b = (e - b) + 1 by omega, Nat.pow_succ]; omega⟩)
        exact ⟨r, M', g1, Or.inl ⟨by omega, ⟨z1, z2⟩, g2⟩, g3, g4, ((z_fr.refl.up rfl).up rfl).trans g5⟩
    · rw [e1, z_bi_s, if_pos rfl]
      exact ⟨e, M, rfl, Or.inr ⟨fun z => a z.2, rfl⟩, h5, h6, z_fr.refl⟩
theorem e_step7 {u : Nat → Nat} {n e : Nat} {M : zMM} (hn : n ≤ 700) (he : e ≤ n) (hB : cB u n M) (h2 : M 79 2 = nI n) (h5 : M 79 5 = nI e) : ∃ b t r M', f_X3_step_79 M = some M' ∧ tkq u n e b t r ∧ M' 79 3 = nI t ∧ M' 79 4 = nI b ∧ M' 79 5 = nI r ∧ (t = 2 → r - b ≤ 4 → M' 79 6 = nI (dvq u b (r - b)) ∧ dvq u b (r - b) < 10000) := by
  have p38 : ∀ b, b ≤ n → ∀ M, cB u n M → M 79 2 = nI n → M 79 5 = nI b → scq (blq u) n (n - e) e b → ∃ t r M', f_X3_step_79_p38 M = some M' ∧ tkq u n e b t r ∧ M' 79 3 = nI t ∧ M' 79 4 = nI b ∧ M' 79 5 = nI r ∧ (t = 2 → r - b ≤ 4 → M' 79 6 = nI (dvq u b (r - b)) ∧ dvq u b (r - b) < 10000) := by
    intro b hb M hB h2 h5 hs
    unfold f_X3_step_79_p38
    by_cases hlt : b < n
    · rw [h5, e_by7 (M := z_up M 79 4 (nI b)) hB hn hlt, z_bi_s, show z_up M 79 4 (nI b) 79 5 = nI b from h5, show z_up M 79 4 (nI b) 79 2 = nI n from h2, if_pos (nI_lt hlt (by omega)), show z_up M 79 4 (nI b) 52 b = M 52 b from rfl]
      rcases e_let7 (M' := z_up (z_up M 79 4 (nI b)) 79 6 (0 : Int32)) hB hlt with ⟨a, e1⟩ | ⟨a, e1⟩
      · rw [e1, z_bi_s, if_neg (by decide)]
        obtain ⟨r, M', g1, g2, g3, g4⟩ := e_word7 hn (n - b) b (by omega) z_fuel (z_up (z_up (z_up M 79 4 (nI b)) 79 6 (0 : Int32)) 79 3 (1 : Int32)) (by unfold z_fuel; omega) hB h2 h5
        exact ⟨1, r, M', g1, ⟨hs, Or.inr (Or.inl ⟨hlt, a, rfl, g2⟩)⟩, (g4 79 3 rfl).trans rfl, (g4 79 4 rfl).trans rfl, g3, fun z => absurd z (by decide)⟩
      · rw [e1, z_bi_s, if_pos rfl]
        rcases e_dig7 (M' := z_up (z_up M 79 4 (nI b)) 79 6 (0 : Int32)) hB hlt with ⟨d, e2⟩ | ⟨d, e2⟩
        · rw [e2, z_bi_s, if_neg (by decide)]
          obtain ⟨r, M', g1, g2, g3, g4, g5⟩ := e_num7 (b := b) hn (n - b) b (by omega) (Nat.le_refl _) z_fuel (z_up (z_up (z_up M 79 4 (nI b)) 79 6 (0 : Int32)) 79 3 (2 : Int32)) (by unfold z_fuel; omega) hB h2 rfl h5 (fun _ => by rw [Nat.sub_self]; exact ⟨rfl, show (0 : Nat) < 1 by omega⟩)
          refine ⟨2, r, M', g1, ⟨hs, Or.inr (Or.inr (Or.inl ⟨hlt, a, d, rfl, g2⟩))⟩, (g5 79 3 rfl).trans rfl, (g5 79 4 rfl).trans rfl, g3, fun _ hle => ?_⟩
          obtain ⟨q1, q2⟩ := g4 hle
          have : 10 ^ (r - b) ≤ 10 ^ 4 := Nat.pow_le_pow_right (by decide) hle
          exact ⟨q1, by omega⟩
        · rw [e2, z_bi_s, if_pos rfl]
          have h5' : z_up (z_up M 79 4 (nI b)) 79 6 (0 : Int32) 79 5 = nI b := h5
          rw [h5', nI_1]
          by_cases hc : M 52 b = (59 : Int32)
          · rw [if_pos hc]
            have hu : u b = 59 := by
              rcases (hB b hlt).2 with ⟨z1, z2⟩ | ⟨z1, z2⟩
              · rw [z2] at hc; exact (nI_eq (b := 59) (by omega) (by decide)).mp hc
              · exact absurd hc (neg_lt z2 (k := 59) (by decide)).2.2
            exact ⟨3, b + 1, _, rfl, ⟨hs, Or.inr (Or.inr (Or.inr ⟨hlt, a, d, rfl, Or.inl ⟨hu, rfl⟩⟩))⟩, rfl, rfl, rfl, fun z => absurd z (by decide)⟩
          · rw [if_neg hc]
            have hu : u b ≠ 59 := by
              intro z
              rcases (hB b hlt).2 with ⟨z1, z2⟩ | ⟨z1, z2⟩
              · rw [z2, z] at hc; exact hc rfl
              · omega
            exact ⟨4, b + 1, _, rfl, ⟨hs, Or.inr (Or.inr (Or.inr ⟨hlt, a, d, rfl, Or.inr ⟨hu, rfl⟩⟩))⟩, rfl, rfl, rfl, fun z => absurd z (by decide)⟩
    · obtain ⟨v, hv⟩ := e_byT (x := M 79 5) (M := z_up M 79 4 (M 79 5))
      rw [hv, z_bi_s, show z_up M 79 4 (M 79 5) 79 5 = nI b from h5, show z_up M 79 4 (M 79 5) 79 2 = nI n from h2, if_neg (nI_nlt (by omega) (by omega))]
      exact ⟨0, b, _, rfl, ⟨hs, Or.inl ⟨by omega, rfl, rfl⟩⟩, rfl, h5, h5, fun z => absurd z (by decide)⟩
  have p0 : ∀ k c, c + k = n → ∀ fu M, k < fu → cB u n M → M 79 2 = nI n → M 79 5 = nI c → (∀ b, scq (blq u) n k c b → scq (blq u) n (n - e) e b) → ∃ b t r M', f_X3_step_79_p0 fu M = some M' ∧ tkq u n e b t r ∧ M' 79 3 = nI t ∧ M' 79 4 = nI b ∧ M' 79 5 = nI r ∧ (t = 2 → r - b ≤ 4 → M' 79 6 = nI (dvq u b (r - b)) ∧ dvq u b (r - b) < 10000) := by
    intro k
    induction k with
    | zero =>
      intro c hc fu M hfu hB h2 h5 hk
      obtain ⟨fu, rfl⟩ : ∃ m, fu = m + 1 := ⟨fu - 1, by omega⟩
      unfold f_X3_step_79_p0
      rw [h2, h5, if_pos (nI_le (by omega) (by omega))]
      obtain ⟨t, r, M', g⟩ := p38 c (by omega) M hB h2 h5 (hk c rfl)
      exact ⟨c, t, r, M', g⟩
    | succ k ih =>
      intro c hc fu M hfu hB h2 h5 hk
      obtain ⟨fu, rfl⟩ : ∃ m, fu = m + 1 := ⟨fu - 1, by omega⟩
      unfold f_X3_step_79_p0
      rw [h2, h5, if_neg (nI_ge (by omega) (by omega)), e_by7 hB hn (by omega), z_bi_s]
      rcases e_bla7 (M' := M) hB (show c < n by omega) with ⟨a, e1⟩ | ⟨a, e1⟩
      · rw [e1, z_bi_s, if_neg (by decide), h5, nI_1]
        exact ih (c + 1) (by omega) fu (z_up M 79 5 (nI (c + 1))) (by omega) hB h2 z_up_s (fun b hb => hk b (Or.inl ⟨by omega, a, hb⟩))
      · rw [e1, z_bi_s, if_pos rfl]
        obtain ⟨t, r, M', g⟩ := p38 c (by omega) M hB h2 h5 (hk c (Or.inr ⟨fun z => a z.2, rfl⟩))
        exact ⟨c, t, r, M', g⟩
  exact p0 (n - e) e (by omega) z_fuel M (by unfold z_fuel; omega) hB h2 h5 (fun b hb => hb)
/-! the model's step -/
theorem e_word8 {u : Nat → Nat} {n : Nat} (hn : n ≤ 700) : ∀ k e, e + k = n → ∀ fu M, k < fu → mB u n M → M 107 19 = nI n → M 107 18 = nI e → ∃ r M', f_X8_stepOn_107_p76 fu M = some M' ∧ scq (leq u) n k e r ∧ M' 107 18 = nI r ∧ M' 107 23 = nI r ∧ M' 107 20 = 1 ∧ z_fr ([(107, 18), (107, 20), (107, 23)], []) M M' := by
  intro k
  induction k with
  | zero =>
    intro e he fu M hfu hB h2 h5
    obtain ⟨fu, rfl⟩ : ∃ m, fu = m + 1 := ⟨fu - 1, by omega⟩
    refine ⟨e, z_up (z_up M 107 20 (1 : Int32)) 107 23 (M 107 18), ?_, rfl, h5, h5, rfl, (z_fr.refl.up rfl).up rfl⟩
    unfold f_X8_stepOn_107_p76
    rw [h5, e_by8 hB hn h2 (by omega), z_bi_s, if_neg (by omega)]
    have : f_X8_isLetter (-1 : Int32) M = some ((0 : Int32), M) := rfl
    rw [this, z_bi_s, if_pos rfl, h5]
  | succ k ih =>
    intro e he fu M hfu hB h2 h5
    obtain ⟨fu, rfl⟩ : ∃ m, fu = m + 1 := ⟨fu - 1, by omega⟩
    unfold f_X8_stepOn_107_p76
    rw [h5, e_by8 hB hn h2 (by omega), z_bi_s, if_pos (by omega)]
    rcases e_let8 (v := u e) (M := M) (hB e (by omega)).1 with ⟨a1, a2, e1⟩ | ⟨a, e1⟩
    · rw [e1, z_bi_s, if_neg (by decide), h5, nI_1]
      obtain ⟨r, M', g1, g2, g3, g4, g5, g6⟩ := ih (e + 1) (by omega) fu (z_up M 107 18 (nI (e + 1))) (by omega) hB h2 z_up_s
      exact ⟨r, M', g1, Or.inl ⟨by omega, ⟨a1, a2⟩, g2⟩, g3, g4, g5, (z_fr.refl.up rfl).trans g6⟩
    · rw [e1, z_bi_s, if_pos rfl]
      exact ⟨e, _, rfl, Or.inr ⟨fun z => a z.2, rfl⟩, h5, h5, rfl, (z_fr.refl.up rfl).up rfl⟩
theorem e_num8 {u : Nat → Nat} {n b : Nat} (hn : n ≤ 700) : ∀ k e, e + k = n → b ≤ e → ∀ fu M, k < fu → mB u n M → M 107 19 = nI n → M 107 18 = nI e → (e - b ≤ 4 → M 107 21 = nI (dvq u b (e - b)) ∧ dvq u b (e - b) < 10 ^ (e - b)) → ∃ r M', f_X8_stepOn_107_p123 fu M = some M' ∧ scq (diq u) n k e r ∧ M' 107 18 = nI r ∧ M' 107 23 = nI r ∧ M' 107 20 = 2 ∧ (r - b ≤ 4 → M' 107 21 = nI (dvq u b (r - b))) ∧ z_fr ([(107, 18), (107, 20), (107, 21), (107, 23)], []) M M' := by
  intro k
  induction k with
  | zero =>
    intro e he hb fu M hfu hB h2 h5 h6
    obtain ⟨fu, rfl⟩ : ∃ m, fu = m + 1 := ⟨fu - 1, by omega⟩
    refine ⟨e, z_up (z_up M 107 20 (2 : Int32)) 107 23 (M 107 18), ?_, rfl, h5, h5, rfl, fun z => (h6 z).1, (z_fr.refl.up rfl).up rfl⟩
    unfold f_X8_stepOn_107_p123
    rw [h5, e_by8 hB hn h2 (by omega), z_bi_s, if_neg (by omega)]
    have : f_X8_isDigit (-1 : Int32) M = some ((0 : Int32), M) := rfl
    rw [this, z_bi_s, if_pos rfl, h5]
  | succ k ih =>
    intro e he hb fu M hfu hB h2 h5 h6
    obtain ⟨fu, rfl⟩ : ∃ m, fu = m + 1 := ⟨fu - 1, by omega⟩
    unfold f_X8_stepOn_107_p123
    rw [h5, e_by8 hB hn h2 (by omega), z_bi_s, if_pos (by omega)]
    rcases e_dig8 (v := u e) (M := M) (hB e (by omega)).1 with ⟨a1, a2, e1⟩ | ⟨a, e1⟩
    · rw [e1, z_bi_s, if_neg (by decide), h5, e_by8 hB hn h2 (by omega), z_bi_s, h5, if_pos (by omega), nI_1]
      obtain ⟨r, M', g1, g2, g3, g4, g5, g6, g7⟩ := ih (e + 1) (by omega) (by omega) fu (z_up (z_up M 107 21 (z_min (100000 : Int32) ((((10 : Int32) * (M 107 21)) + nI (u e)) - (48 : Int32)))) 107 18 (nI (e + 1))) (by omega) hB h2 z_up_s (fun hd => by
        obtain ⟨q1, q2⟩ := h6 (by omega)
        have hp : 10 ^ (e - b) ≤ 10 ^ 3 := Nat.pow_le_pow_right (by decide) (by omega)
        have e10 : dvq u b (e + 1 - b) = 10 * dvq u b (e - b) + (u e - 48) := by
          rw [show e + 1 - b = (e - b) + 1 by omega]
          show 10 * dvq u b (e - b) + (u (b + (e - b)) - 48) = _
          rw [show b + (e - b) = e by omega]
        have ev : (((10 : Int32) * (M 107 21)) + nI (u e)) - (48 : Int32) = nI (dvq u b (e + 1 - b)) := by
          rw [q1, show (10 : Int32) * nI (dvq u b (e - b)) = nI (10 * dvq u b (e - b)) from nI_mul 10 _, nI_add, show nI (10 * dvq u b (e - b) + u e) - (48 : Int32) = nI (10 * dvq u b (e - b) + u e - 48) from nI_subq (b := 48) (by omega) (by omega), e10, show 10 * dvq u b (e - b) + u e - 48 = 10 * dvq u b (e - b) + (u e - 48) by omega]
        refine ⟨?_, by rw [e10, show e + 1 - b = (e - b) + 1 by omega, Nat.pow_succ]; omega⟩
        rw [z_up_n (by decide), z_up_s, ev]
        unfold z_min
        rw [if_pos (show nI (dvq u b (e + 1 - b)) < (100000 : Int32) from nI_lt (b := 100000) (by omega) (by decide))])
      exact ⟨r, M', g1, Or.inl ⟨by omega, ⟨a1, a2⟩, g2⟩, g3, g4, g5, g6, ((z_fr.refl.up rfl).up rfl).trans g7⟩
    · rw [e1, z_bi_s, if_pos rfl]
      exact ⟨e, _, rfl, Or.inr ⟨fun z => a z.2, rfl⟩, h5, h5, rfl, fun z => (h6 z).1, (z_fr.refl.up rfl).up rfl⟩
theorem e_step8 {u : Nat → Nat} {n e : Nat} {M : zMM} (hn : n ≤ 700) (he : e ≤ n) (hB : mB u n M) (h2 : M 107 19 = nI n) (h5 : M 107 18 = nI e) : ∃ b t r M', f_X8_stepOn_107 M = some M' ∧ tkq u n e b t r ∧ M' 107 20 = nI t ∧ M' 107 22 = nI b ∧ M' 107 18 = nI r ∧ M' 107 23 = nI r ∧ (t = 2 → r - b ≤ 4 → M' 107 21 = nI (dvq u b (r - b))) := by
  have p0 : ∀ k c, c + k = n → ∀ fu M, k < fu → mB u n M → M 107 19 = nI n → M 107 18 = nI c → (∀ b, scq (blq u) n k c b → scq (blq u) n (n - e) e b) → ∃ b t r M', f_X8_stepOn_107_p0 fu M = some M' ∧ tkq u n e b t r ∧ M' 107 20 = nI t ∧ M' 107 22 = nI b ∧ M' 107 18 = nI r ∧ M' 107 23 = nI r ∧ (t = 2 → r - b ≤ 4 → M' 107 21 = nI (dvq u b (r - b))) := by
    intro k
    induction k with
    | zero =>
      intro c hc fu M hfu hB h2 h5 hk
      obtain ⟨fu, rfl⟩ : ∃ m, fu = m + 1 := ⟨fu - 1, by omega⟩
      have hcn : ¬ c < n := by omega
      unfold f_X8_stepOn_107_p0
      rw [h5, e_by8 hB hn h2 (by omega), z_bi_s, if_neg hcn, if_neg (by decide), h5, e_by8 hB hn h2 (by omega), z_bi_s, if_neg hcn, if_neg (by decide), h5, e_by8 (M := z_up M 107 22 (nI c)) hB hn h2 (by omega), z_bi_s, if_neg hcn, if_pos rfl]
      exact ⟨c, 0, c, _, rfl, ⟨hk c rfl, Or.inl ⟨by omega, rfl, rfl⟩⟩, rfl, rfl, h5, h5, fun z => absurd z (by decide)⟩
    | succ k ih =>
      intro c hc fu M hfu hB h2 h5 hk
      obtain ⟨fu, rfl⟩ : ∃ m, fu = m + 1 := ⟨fu - 1, by omega⟩
      have hcn : c < n := by omega
      have hu := (hB c hcn).1
      unfold f_X8_stepOn_107_p0
      rw [h5, e_by8 hB hn h2 (by omega), z_bi_s, if_pos hcn]
      by_cases h32 : u c = 32
      · rw [if_pos (show nI (u c) = (32 : Int32) by rw [h32]; rfl), h5, nI_1]
        exact ih (c + 1) (by omega) fu (z_up M 107 18 (nI (c + 1))) (by omega) hB h2 z_up_s (fun b hb => hk b (Or.inl ⟨by omega, Or.inl h32, hb⟩))
      · rw [if_neg (show ¬ nI (u c) = (32 : Int32) from fun z => h32 ((nI_eq (b := 32) (by omega) (by decide)).mp z)), h5, e_by8 hB hn h2 (by omega), z_bi_s, if_pos hcn]
        by_cases h10 : u c = 10
        · rw [if_pos (show nI (u c) = (10 : Int32) by rw [h10]; rfl), h5, nI_1]
          exact ih (c + 1) (by omega) fu (z_up M 107 18 (nI (c + 1))) (by omega) hB h2 z_up_s (fun b hb => hk b (Or.inl ⟨by omega, Or.inr h10, hb⟩))
        · rw [if_neg (show ¬ nI (u c) = (10 : Int32) from fun z => h10 ((nI_eq (b := 10) (by omega) (by decide)).mp z)), h5, e_by8 (M := z_up M 107 22 (nI c)) hB hn h2 (by omega), z_bi_s, if_pos hcn, if_neg (nI_m1 (by omega))]
          have hs := hk c (Or.inr ⟨fun z => z.2.elim h32 h10, rfl⟩)
          rcases e_let8 (v := u c) (M := z_up M 107 22 (nI c)) hu with ⟨a1, a2, e1⟩ | ⟨a, e1⟩
          · rw [e1, z_bi_s, if_neg (by decide)]
            obtain ⟨r, M', g1, g2, g3, g4, g5, g6⟩ := e_word8 hn (n - c) c (by omega) z_fuel (z_up M 107 22 (nI c)) (by unfold z_fuel; omega) hB h2 h5
            exact ⟨c, 1, r, M', g1, ⟨hs, Or.inr (Or.inl ⟨hcn, ⟨a1, a2⟩, rfl, g2⟩)⟩, g5, (g6 107 22 rfl).trans rfl, g3, g4, fun z => absurd z (by decide)⟩
          · rw [e1, z_bi_s, if_pos rfl]
            rcases e_dig8 (v := u c) (M := z_up M 107 22 (nI c)) hu with ⟨d1, d2, e2⟩ | ⟨d, e2⟩
            · rw [e2, z_bi_s, if_neg (by decide)]
              obtain ⟨r, M', g1, g2, g3, g4, g5, g6, g7⟩ := e_num8 (b := c) hn (n - c) c (by omega) (Nat.le_refl _) z_fuel (z_up (z_up M 107 22 (nI c)) 107 21 (0 : Int32)) (by unfold z_fuel; omega) hB h2 h5 (fun _ => by rw [Nat.sub_self]; exact ⟨rfl, show (0 : Nat) < 1 by omega⟩)
              exact ⟨c, 2, r, M', g1, ⟨hs, Or.inr (Or.inr (Or.inl ⟨hcn, a, ⟨d1, d2⟩, rfl, g2⟩))⟩, g5, (g7 107 22 rfl).trans rfl, g3, g4, fun _ => g6⟩
            · rw [e2, z_bi_s, if_pos rfl]
              have h5' : z_up M 107 22 (nI c) 107 18 = nI c := h5
              rw [h5', nI_1]
              by_cases hc59 : u c = 59
              · rw [if_pos (show nI (u c) = (59 : Int32) by rw [hc59]; rfl)]
                exact ⟨c, 3, c + 1, _, rfl, ⟨hs, Or.inr (Or.inr (Or.inr ⟨hcn, a, d, rfl, Or.inl ⟨hc59, rfl⟩⟩))⟩, rfl, rfl, rfl, rfl, fun z => absurd z (by decide)⟩
              · rw [if_neg (show ¬ nI (u c) = (59 : Int32) from fun z => hc59 ((nI_eq (b := 59) (by omega) (by decide)).mp z))]
                exact ⟨c, 4, c + 1, _, rfl, ⟨hs, Or.inr (Or.inr (Or.inr ⟨hcn, a, d, rfl, Or.inr ⟨hc59, rfl⟩⟩))⟩, rfl, rfl, rfl, rfl, fun z => absurd z (by decide)⟩
  exact p0 (n - e) e (by omega) z_fuel M (by unfold z_fuel; omega) hB h2 h5 (fun b hb => hb)
