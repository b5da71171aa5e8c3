/-! ===== told: both measure the ways ===== -/
def encq (v : Nat) : Int32 := if v = 1000000 then -1 else nI v
def cWq (D : Nat → Nat → Nat) (M : zMM) : Prop := ∀ a, a < 5 → ∀ b, b < 5 → M 81 (5 * a + b) = encq (D a b)
def mWq (D : Nat → Nat → Nat) (M : zMM) : Prop := ∀ a, a < 5 → ∀ b, b < 5 → M 126 (5 * a + b) = nI (D a b)
/-- the matrix on its way through phase k: so far done up to row a, column b -/
def Pq (k : Nat) (D : Nat → Nat → Nat) (a b : Nat) : Nat → Nat → Nat := fun x y => if x < a ∨ (x = a ∧ y < b) then Fq k D x y else D x y
theorem Pq_col {k : Nat} {D : Nat → Nat → Nat} (h : D k k = 0) {a b x : Nat} : Pq k D a b x k = D x k ∧ Pq k D a b k x = D k x := by
  unfold Pq
  constructor
  · split
    · exact (Fq_k h).1
    · rfl
  · split
    · exact (Fq_k h).2
    · rfl
theorem Pq_here {k : Nat} {D : Nat → Nat → Nat} {a b : Nat} : Pq k D a b a b = D a b := by
  unfold Pq
  rw [if_neg (by omega)]
theorem Pq_next {k : Nat} {D : Nat → Nat → Nat} {a b x y : Nat} (hne : ¬ (x = a ∧ y = b)) : Pq k D a (b + 1) x y = Pq k D a b x y := by
  unfold Pq
  by_cases h : x < a ∨ (x = a ∧ y < b)
  · rw [if_pos h, if_pos (by omega)]
  · rw [if_neg h, if_neg (by omega)]
theorem Pq_new {k : Nat} {D : Nat → Nat → Nat} {a b : Nat} : Pq k D a (b + 1) a b = Fq k D a b := by
  unfold Pq
  rw [if_pos (by omega)]
theorem Pq_row {k : Nat} {D : Nat → Nat → Nat} {a x y : Nat} (hy : y < 5) : Pq k D a 5 x y = Pq k D (a + 1) 0 x y := by
  unfold Pq
  by_cases h : x < a ∨ (x = a ∧ y < 5)
  · rw [if_pos h, if_pos (by omega)]
  · rw [if_neg h, if_neg (by omega)]
theorem Pq_all {k : Nat} {D : Nat → Nat → Nat} {x y : Nat} (hx : x < 5) : Pq k D 5 0 x y = Fq k D x y := by
  unfold Pq
  rw [if_pos (by omega)]
theorem Pq_no {k : Nat} {D : Nat → Nat → Nat} {x y : Nat} : Pq k D 0 0 x y = D x y := by
  unfold Pq
  rw [if_neg (by omega)]
theorem cW_in {K42 : Int32 → zMM → Option zMM} {K49 : Int32 → Int32 → zMM → Option zMM} {k a : Nat} {D : Nat → Nat → Nat} (hk : k < 5) (ha : a < 5) (hD : D k k = 0) (hB : bndq 300 D) : ∀ m b, b + m = 5 → ∀ fu M, m < fu → cWq (Pq k D a b) M → ∃ M', f_X6_measure_80_p56 K42 K49 fu (nI k) (nI a) (nI b) M = K49 (nI k) (nI (a + 1)) M' ∧ cWq (Pq k D (a + 1) 0) M' ∧ ∀ c d, c ≠ 81 → M' c d = M c d := by
  intro m
  induction m with
  | zero =>
    intro b hb fu M hfu hW
    obtain ⟨fu, rfl⟩ : ∃ y, fu = y + 1 := ⟨fu - 1, by omega⟩
    refine ⟨M, ?_, ?_, fun _ _ _ => rfl⟩
    · show (if (5 : Int32) ≤ nI b then _ else _) = _
      rw [if_pos (show (5 : Int32) ≤ nI b from nI_le (a := 5) (by omega) (by omega)), nI_1]
    · intro x hx y hy
      have hb5 : b = 5 := by omega
      rw [hb5] at hW
      rw [← Pq_row hy]
      exact hW x hx y hy
  | succ m ih =>
    intro b hb fu M hfu hW
    obtain ⟨fu, rfl⟩ : ∃ y, fu = y + 1 := ⟨fu - 1, by omega⟩
    have e1 : M 81 (5 * a + k) = encq (D a k) := by rw [hW a ha k hk, (Pq_col hD).1]
    have e2 : M 81 (5 * k + b) = encq (D k b) := by rw [hW k hk b (by omega), (Pq_col hD).2]
    have e3 : M 81 (5 * a + b) = encq (D a b) := by rw [hW a ha b (by omega), Pq_here]
    have h1 := hB a ha k hk
    have h2 := hB k hk b (by omega)
    have h3 := hB a ha b (by omega)
    have hN : ∀ N : zMM, N 81 (5 * a + b) = encq (Fq k D a b) → (∀ c d, c ≠ 81 ∨ d ≠ 5 * a + b → N c d = M c d) → ∃ M', f_X6_measure_80_p56 K42 K49 fu (nI k) (nI a) (nI (b + 1)) N = K49 (nI k) (nI (a + 1)) M' ∧ cWq (Pq k D (a + 1) 0) M' ∧ ∀ c d, c ≠ 81 → M' c d = M c d := by
      intro N n1 n2
      have hW2 : cWq (Pq k D a (b + 1)) N := by
        intro x hx y hy
        by_cases hxy : x = a ∧ y = b
        · rw [hxy.1, hxy.2, Pq_new, n1]
        · rw [Pq_next hxy, n2 81 _ (Or.inr (by omega))]
          exact hW x hx y hy
      obtain ⟨M', m1, m2, m3⟩ := ih (b + 1) (by omega) fu N (by omega) hW2
      exact ⟨M', m1, m2, fun c d hc => (m3 c d hc).trans (n2 c d (Or.inl hc))⟩
    have eb : f_X6_measure_80_p56 K42 K49 (fu + 1) (nI k) (nI a) (nI b) M = z_bi (f_X6_joined (encq (D a k)) (encq (D k b)) M) fun v14 M15 => z_bi (f_X6_span_80 (nI a) (nI b) M15) fun v17 M18 => z_bi (f_X7_isLess v14 v17 M18) fun v20 M21 => if v20 = 0 then f_X6_measure_80_p56 K42 K49 fu (nI k) (nI a) (nI b + (1 : Int32)) M21 else z_bv (some (z_pt M21 81 25 ((nI a * (5 : Int32)) + nI b) v14)) fun M24 => f_X6_measure_80_p56 K42 K49 fu (nI k) (nI a) (nI b + (1 : Int32)) M24 := by
      show (if (5 : Int32) ≤ nI b then _ else _) = _
      rw [if_neg (show ¬ (5 : Int32) ≤ nI b from nI_ge (b := 5) (by omega) (by decide))]
      unfold f_X6_span_80
      rw [z_bi_s, z_bi_s, nI_51, nI_51, nI_51, z_at_nI (by decide) (by omega), z_at_nI (by decide) (by omega), e1, e2]
    have es : f_X6_span_80 (nI a) (nI b) M = some (encq (D a b), M) := by
      unfold f_X6_span_80
      rw [nI_51, z_at_nI (by decide) (by omega), e3]
    rw [eb, nI_1]
    have no : encq (Fq k D a b) = encq (D a b) → ∃ M', f_X6_measure_80_p56 K42 K49 fu (nI k) (nI a) (nI (b + 1)) M = K49 (nI k) (nI (a + 1)) M' ∧ cWq (Pq k D (a + 1) 0) M' ∧ ∀ c d, c ≠ 81 → M' c d = M c d := fun z => hN M (e3.trans z.symm) (fun _ _ _ => rfl)
    by_cases hj : D a k = 1000000 ∨ D k b = 1000000
    · have ej : f_X6_joined (encq (D a k)) (encq (D k b)) M = some (-1, M) := by
        unfold f_X6_joined
        rcases hj with z | z
        · rw [if_pos (show encq (D a k) = -1 by unfold encq; rw [if_pos z])]
        · rw [if_pos (show encq (D k b) = -1 by unfold encq; rw [if_pos z])]
          split <;> rfl
      rw [ej, z_bi_s, es, z_bi_s]
      unfold f_X7_isLess
      rw [if_pos rfl, z_bi_s, if_pos rfl]
      apply no
      unfold Fq
      rw [Nat.min_eq_left (by omega)]
    · have f1 : encq (D a k) = nI (D a k) := by unfold encq; rw [if_neg (by omega)]
      have f2 : encq (D k b) = nI (D k b) := by unfold encq; rw [if_neg (by omega)]
      have ej : f_X6_joined (encq (D a k)) (encq (D k b)) M = some (nI (D a k + D k b), M) := by
        unfold f_X6_joined
        rw [f1, f2, if_neg (nI_m1 (by omega)), if_neg (nI_m1 (by omega)), nI_add]
      rw [ej, z_bi_s, es, z_bi_s]
      unfold f_X7_isLess
      rw [if_neg (nI_m1 (by omega))]
      have put : D a k + D k b < D a b → ∃ M', (z_bv (some (z_pt M 81 25 ((nI a * (5 : Int32)) + nI b) (nI (D a k + D k b)))) fun M24 => f_X6_measure_80_p56 K42 K49 fu (nI k) (nI a) (nI (b + 1)) M24) = K49 (nI k) (nI (a + 1)) M' ∧ cWq (Pq k D (a + 1) 0) M' ∧ ∀ c d, c ≠ 81 → M' c d = M c d := by
        intro hlt
        rw [nI_51, z_pt_nI (by decide) (by omega), z_bv_s]
        apply hN
        · rw [z_up_s]
          unfold Fq encq
          rw [Nat.min_eq_right (by omega), if_neg (by omega)]
        · intro c d hcd
          by_cases hc : c = 81
          · rw [hc, z_up_n (by omega)]
          · rw [z_up_o hc]
      by_cases hab : D a b = 1000000
      · rw [if_pos (show encq (D a b) = -1 by unfold encq; rw [if_pos hab]), z_bi_s, if_neg (by decide)]
        exact put (by omega)
      · have f3 : encq (D a b) = nI (D a b) := by unfold encq; rw [if_neg (by omega)]
        rw [f3, if_neg (nI_m1 (by omega))]
        by_cases hle : D a b ≤ D a k + D k b
        · rw [if_pos (nI_le hle (by omega)), z_bi_s, if_pos rfl]
          apply no
          unfold Fq
          rw [Nat.min_eq_left hle]
        · rw [if_neg (nI_ge (by omega) (by omega)), z_bi_s, if_neg (by decide)]
          exact put (by omega)
theorem cW_row {K42 : Int32 → zMM → Option zMM} {k : Nat} {D : Nat → Nat → Nat} (hk : k < 5) (hD : D k k = 0) (hB : bndq 300 D) : ∀ m a, a + m = 5 → ∀ fu M, m < fu → cWq (Pq k D a 0) M → ∃ M', f_X6_measure_80_p49 K42 fu (nI k) (nI a) M = K42 (nI (k + 1)) M' ∧ cWq (Fq k D) M' ∧ ∀ c d, c ≠ 81 → M' c d = M c d := by
  intro m
  induction m with
  | zero =>
    intro a ha fu M hfu hW
    obtain ⟨fu, rfl⟩ : ∃ y, fu = y + 1 := ⟨fu - 1, by omega⟩
    refine ⟨M, ?_, ?_, fun _ _ _ => rfl⟩
    · show (if (5 : Int32) ≤ nI a then _ else _) = _
      rw [if_pos (show (5 : Int32) ≤ nI a from nI_le (a := 5) (by omega) (by omega)), nI_1]
    · intro x hx y hy
      rw [hW x hx y hy, show a = 5 by omega, Pq_all hx]
  | succ m ih =>
    intro a ha fu M hfu hW
    obtain ⟨fu, rfl⟩ : ∃ y, fu = y + 1 := ⟨fu - 1, by omega⟩
    obtain ⟨A, a1, a2, a3⟩ := cW_in (K42 := K42) (K49 := f_X6_measure_80_p49 K42 fu) hk (show a < 5 by omega) hD hB 5 0 (by decide) z_fuel M (by decide) hW
    obtain ⟨M', m1, m2, m3⟩ := ih (a + 1) (by omega) fu A (by omega) a2
    refine ⟨M', ?_, m2, fun c d hc => (m3 c d hc).trans (a3 c d hc)⟩
    show (if (5 : Int32) ≤ nI a then _ else _) = _
    rw [if_neg (show ¬ (5 : Int32) ≤ nI a from nI_ge (b := 5) (by omega) (by decide))]
    exact a1.trans m1
theorem cW_all {D : Nat → Nat → Nat} (hD : ∀ a, a < 5 → D a a = 0) (hB : bndq 10 D) : ∀ m k, k + m = 5 → ∀ fu M, m < fu → cWq (Wq D k) M → ∃ M', f_X6_measure_80_p42 fu (nI k) M = some M' ∧ cWq (Wq D 5) M' ∧ ∀ c d, c ≠ 81 → M' c d = M c d := by
  intro m
  induction m with
  | zero =>
    intro k hk fu M hfu hW
    obtain ⟨fu, rfl⟩ : ∃ y, fu = y + 1 := ⟨fu - 1, by omega⟩
    refine ⟨M, ?_, ?_, fun _ _ _ => rfl⟩
    · show (if (5 : Int32) ≤ nI k then _ else _) = _
      rw [if_pos (show (5 : Int32) ≤ nI k from nI_le (a := 5) (by omega) (by omega))]
    · rw [show (5 : Nat) = k by omega]; exact hW
  | succ m ih =>
    intro k hk fu M hfu hW
    obtain ⟨fu, rfl⟩ : ∃ y, fu = y + 1 := ⟨fu - 1, by omega⟩
    have hb : bndq 300 (Wq D k) := by
      intro a ha b hb
      have h1 := Wq_b hB k (by omega) a ha b hb
      have h2 : 2 ^ k ≤ 2 ^ 4 := Nat.pow_le_pow_right (by decide) (by omega)
      rcases h1 with h1 | h1
      · exact Or.inl h1
      · right
        have h3 : 2 ^ k * 10 ≤ 2 ^ 4 * 10 := Nat.mul_le_mul_right 10 h2
        omega
    obtain ⟨A, a1, a2, a3⟩ := cW_row (K42 := f_X6_measure_80_p42 fu) (show k < 5 by omega) (Wq_d hD k k (by omega)) hb 5 0 (by decide) z_fuel M (by decide) (fun x hx y hy => by rw [hW x hx y hy, Pq_no])
    obtain ⟨M', m1, m2, m3⟩ := ih (k + 1) (by omega) fu A (by omega) a2
    refine ⟨M', ?_, m2, fun c d hc => (m3 c d hc).trans (a3 c d hc)⟩
    show (if (5 : Int32) ≤ nI k then _ else _) = _
    rw [if_neg (show ¬ (5 : Int32) ≤ nI k from nI_ge (b := 5) (by omega) (by decide))]
    exact a1.trans m1
def D0q (T : Nat → Nat → Nat) : Nat → Nat → Nat := fun a b => if a = b then 0 else if T a b = 0 then 1000000 else T a b
def Tok (T : Nat → Nat → Nat) : Prop := ∀ a, a < 5 → ∀ b, b < 5 → T a b ≤ 9
theorem D0_d {T : Nat → Nat → Nat} : ∀ a, a < 5 → D0q T a a = 0 := by
  intro a _
  unfold D0q
  rw [if_pos rfl]
theorem D0_b {T : Nat → Nat → Nat} (h : Tok T) : bndq 10 (D0q T) := by
  intro a ha b hb
  have := h a ha b hb
  unfold D0q
  split
  · omega
  · split
    · omega
    · omega
theorem c_meas {T : Nat → Nat → Nat} {M : zMM} (hT : Tok T) (h : ∀ a, a < 5 → ∀ b, b < 5 → a ≠ b → (T a b = 0 ∧ M 58 (5 * a + b) = -1) ∨ (0 < T a b ∧ M 58 (5 * a + b) = nI (T a b))) : ∃ M', f_X6_measure_80 M = some M' ∧ cWq (Wq (D0q T) 5) M' ∧ ∀ c d, c ≠ 81 → M' c d = M c d := by
  have p16 : ∀ m i, i + m = 5 → ∀ fu A, m < fu → (∀ a, a < 5 → ∀ b, b < 5 → (a ≠ b → A 81 (5 * a + b) = encq (D0q T a b)) ∧ (a = b → a < i → A 81 (5 * a + b) = 0)) → ∃ M', f_X6_measure_80_p16 fu (nI i) A = some M' ∧ cWq (Wq (D0q T) 5) M' ∧ ∀ c d, c ≠ 81 → M' c d = A c d := by
    intro m
    induction m with
    | zero =>
      intro i hi fu A hfu hA
      obtain ⟨fu, rfl⟩ : ∃ y, fu = y + 1 := ⟨fu - 1, by omega⟩
      have hW : cWq (Wq (D0q T) 0) A := by
        intro a ha b hb
        by_cases hab : a = b
        · rw [(hA a ha b hb).2 hab (by omega), ← hab]
          show (0 : Int32) = encq (D0q T a a)
          rw [D0_d a ha]
          rfl
        · exact (hA a ha b hb).1 hab
      obtain ⟨M', m1, m2, m3⟩ := cW_all D0_d (D0_b hT) 5 0 (by decide) z_fuel A (by decide) hW
      refine ⟨M', ?_, m2, m3⟩
      show (if (5 : Int32) ≤ nI i then _ else _) = _
      rw [if_pos (show (5 : Int32) ≤ nI i from nI_le (a := 5) (by omega) (by omega))]
      exact m1
    | succ m ih =>
      intro i hi fu A hfu hA
      obtain ⟨fu, rfl⟩ : ∃ y, fu = y + 1 := ⟨fu - 1, by omega⟩
      obtain ⟨M', m1, m2, m3⟩ := ih (i + 1) (by omega) fu (z_up A 81 (5 * i + i) 0) (by omega) (by
        intro a ha b hb
        constructor
        · intro hab
          rw [z_up_n (by omega)]
          exact (hA a ha b hb).1 hab
        · intro hab hlt
          by_cases hai : a = i
          · rw [← hab, hai, z_up_s]
          · rw [z_up_n (by omega)]
            exact (hA a ha b hb).2 hab (by omega))
      refine ⟨M', ?_, m2, fun c d hc => (m3 c d hc).trans (z_up_o hc)⟩
      show (if (5 : Int32) ≤ nI i then _ else _) = _
      rw [if_neg (show ¬ (5 : Int32) ≤ nI i from nI_ge (b := 5) (by omega) (by decide)), nI_51, z_pt_nI (by decide) (by omega), z_bv_s, nI_1]
      exact m1
  obtain ⟨M', m1, m2, m3⟩ := p16 5 0 (by decide) z_fuel (z_cp M 58 81 25) (by decide) (by
    intro a ha b hb
    refine ⟨fun hab => ?_, fun _ hlt => absurd hlt (by omega)⟩
    show (if 5 * a + b < 25 then M 58 (5 * a + b) else _) = _
    rw [if_pos (by omega)]
    unfold D0q encq
    rw [if_neg hab]
    have h9 := hT a ha b hb
    rcases h a ha b hb hab with ⟨h1, h2⟩ | ⟨h1, h2⟩
    · rw [h2, if_pos h1, if_pos rfl]
    · rw [h2, if_neg (show ¬ T a b = 0 by omega), if_neg (by omega)])
  refine ⟨M', ?_, m2, fun c d hc => (m3 c d hc).trans ?_⟩
  · unfold f_X6_measure_80
    rw [z_bv_s]
    exact m1
  · show (if c = 81 then _ else M c d) = M c d
    rw [if_neg hc]
/-! the model's -/
theorem z_min_n {x y : Nat} (hx : x < 2 ^ 31) (hy : y < 2 ^ 31) : z_min (nI x) (nI y) = nI (min x y) := by
  unfold z_min
  by_cases h : y < x
  · rw [if_pos (nI_lt h hx), Nat.min_eq_right (by omega)]
  · rw [if_neg (nI_nlt (by omega) hy), Nat.min_eq_left (by omega)]
theorem mW_in {K76 : Int32 → zMM → Option zMM} {K83 : Int32 → Int32 → zMM → Option zMM} {k a : Nat} {D : Nat → Nat → Nat} (hk : k < 5) (ha : a < 5) (hD : D k k = 0) (hB : bndq 300 D) : ∀ m b, b + m = 5 → ∀ fu M, m < fu → mWq (Pq k D a b) M → ∃ M', f_X8_tellWays_107_p90 K76 K83 fu (nI k) (nI a) (nI b) M = K83 (nI k) (nI (a + 1)) M' ∧ mWq (Pq k D (a + 1) 0) M' ∧ ∀ c d, c ≠ 126 → M' c d = M c d := by
  intro m
  induction m with
  | zero =>
    intro b hb fu M hfu hW
    obtain ⟨fu, rfl⟩ : ∃ y, fu = y + 1 := ⟨fu - 1, by omega⟩
    refine ⟨M, ?_, ?_, fun _ _ _ => rfl⟩
    · show (if (5 : Int32) ≤ nI b then _ else _) = _
      rw [if_pos (show (5 : Int32) ≤ nI b from nI_le (a := 5) (by omega) (by omega)), nI_1]
    · intro x hx y hy
      have hb5 : b = 5 := by omega
      rw [hb5] at hW
      rw [← Pq_row hy]
      exact hW x hx y hy
  | succ m ih =>
    intro b hb fu M hfu hW
    obtain ⟨fu, rfl⟩ : ∃ y, fu = y + 1 := ⟨fu - 1, by omega⟩
    have e1 : M 126 (5 * a + k) = nI (D a k) := by rw [hW a ha k hk, (Pq_col hD).1]
    have e2 : M 126 (5 * k + b) = nI (D k b) := by rw [hW k hk b (by omega), (Pq_col hD).2]
    have e3 : M 126 (5 * a + b) = nI (D a b) := by rw [hW a ha b (by omega), Pq_here]
    have h1 := hB a ha k hk
    have h2 := hB k hk b (by omega)
    have h3 := hB a ha b (by omega)
    have eb : f_X8_tellWays_107_p90 K76 K83 (fu + 1) (nI k) (nI a) (nI b) M = f_X8_tellWays_107_p90 K76 K83 fu (nI k) (nI a) (nI (b + 1)) (z_up M 126 (5 * a + b) (nI (Fq k D a b))) := by
      show (if (5 : Int32) ≤ nI b then _ else _) = _
      rw [if_neg (show ¬ (5 : Int32) ≤ nI b from nI_ge (b := 5) (by omega) (by decide)), nI_15, nI_15, nI_15, z_ib_n (n := 5 * a + b) (N := 25) (by decide) (by omega), z_ib_n (n := 5 * a + k) (N := 25) (by decide) (by omega), z_ib_n (n := 5 * k + b) (N := 25) (by decide) (by omega), if_pos rfl, if_pos rfl, if_pos rfl, if_pos rfl, nI_clamp (show 5 * a + b < 2 ^ 31 by omega), nI_clamp (show 5 * a + k < 2 ^ 31 by omega), nI_clamp (show 5 * k + b < 2 ^ 31 by omega), e1, e2, e3, nI_add, z_min_n (by omega) (by omega), nI_1]
      rfl
    have hW2 : mWq (Pq k D a (b + 1)) (z_up M 126 (5 * a + b) (nI (Fq k D a b))) := by
      intro x hx y hy
      by_cases hxy : x = a ∧ y = b
      · rw [hxy.1, hxy.2, Pq_new, z_up_s]
      · rw [Pq_next hxy, z_up_n (by omega)]
        exact hW x hx y hy
    obtain ⟨M', m1, m2, m3⟩ := ih (b + 1) (by omega) fu _ (by omega) hW2
    exact ⟨M', eb.trans m1, m2, fun c d hc => (m3 c d hc).trans (z_up_o hc)⟩
theorem mW_row {K76 : Int32 → zMM → Option zMM} {k : Nat} {D : Nat → Nat → Nat} (hk : k < 5) (hD : D k k = 0) (hB : bndq 300 D) : ∀ m a, a + m = 5 → ∀ fu M, m < fu → mWq (Pq k D a 0) M → ∃ M', f_X8_tellWays_107_p83 K76 fu (nI k) (nI a) M = K76 (nI (k + 1)) M' ∧ mWq (Fq k D) M' ∧ ∀ c d, c ≠ 126 → M' c d = M c d := by
  intro m
  induction m with
  | zero =>
    intro a ha fu M hfu hW
    obtain ⟨fu, rfl⟩ : ∃ y, fu = y + 1 := ⟨fu - 1, by omega⟩
    refine ⟨M, ?_, ?_, fun _ _ _ => rfl⟩
    · show (if (5 : Int32) ≤ nI a then _ else _) = _
      rw [if_pos (show (5 : Int32) ≤ nI a from nI_le (a := 5) (by omega) (by omega)), nI_1]
    · intro x hx y hy
      rw [hW x hx y hy, show a = 5 by omega, Pq_all hx]
  | succ m ih =>
    intro a ha fu M hfu hW
    obtain ⟨fu, rfl⟩ : ∃ y, fu = y + 1 := ⟨fu - 1, by omega⟩
    obtain ⟨A, a1, a2, a3⟩ := mW_in (K76 := K76) (K83 := f_X8_tellWays_107_p83 K76 fu) hk (show a < 5 by omega) hD hB 5 0 (by decide) z_fuel M (by decide) hW
    obtain ⟨M', m1, m2, m3⟩ := ih (a + 1) (by omega) fu A (by omega) a2
    refine ⟨M', ?_, m2, fun c d hc => (m3 c d hc).trans (a3 c d hc)⟩
    show (if (5 : Int32) ≤ nI a then _ else _) = _
    rw [if_neg (show ¬ (5 : Int32) ≤ nI a from nI_ge (b := 5) (by omega) (by decide))]
    exact a1.trans m1
theorem mW_all {D : Nat → Nat → Nat} (hD : ∀ a, a < 5 → D a a = 0) (hB : bndq 10 D) : ∀ m k, k + m = 5 → ∀ fu M, m < fu → mWq (Wq D k) M → ∃ M', f_X8_tellWays_107_p76 fu (nI k) M = f_X8_tellWays_107_p159 z_fuel (0 : Int32) M' ∧ mWq (Wq D 5) M' ∧ ∀ c d, c ≠ 126 → M' c d = M c d := by
  intro m
  induction m with
  | zero =>
    intro k hk fu M hfu hW
    obtain ⟨fu, rfl⟩ : ∃ y, fu = y + 1 := ⟨fu - 1, by omega⟩
    refine ⟨M, ?_, ?_, fun _ _ _ => rfl⟩
    · show (if (5 : Int32) ≤ nI k then _ else _) = _
      rw [if_pos (show (5 : Int32) ≤ nI k from nI_le (a := 5) (by omega) (by omega))]
    · have hk5 : k = 5 := by omega
      rw [hk5] at hW; exact hW
  | succ m ih =>
    intro k hk fu M hfu hW
    obtain ⟨fu, rfl⟩ : ∃ y, fu = y + 1 := ⟨fu - 1, by omega⟩
    have hb : bndq 300 (Wq D k) := by
      intro a ha b hb
      have h1 := Wq_b hB k (by omega) a ha b hb
      have h2 : 2 ^ k ≤ 2 ^ 4 := Nat.pow_le_pow_right (by decide) (by omega)
      rcases h1 with h1 | h1
      · exact Or.inl h1
      · right
        have h3 : 2 ^ k * 10 ≤ 2 ^ 4 * 10 := Nat.mul_le_mul_right 10 h2
        omega
    obtain ⟨A, a1, a2, a3⟩ := mW_row (K76 := f_X8_tellWays_107_p76 fu) (show k < 5 by omega) (Wq_d hD k k (by omega)) hb 5 0 (by decide) z_fuel M (by decide) (fun x hx y hy => by rw [hW x hx y hy, Pq_no])
    obtain ⟨M', m1, m2, m3⟩ := ih (k + 1) (by omega) fu A (by omega) a2
    refine ⟨M', ?_, m2, fun c d hc => (m3 c d hc).trans (a3 c d hc)⟩
    show (if (5 : Int32) ≤ nI k then _ else _) = _
    rw [if_neg (show ¬ (5 : Int32) ≤ nI k from nI_ge (b := 5) (by omega) (by decide))]
    exact a1.trans m1
