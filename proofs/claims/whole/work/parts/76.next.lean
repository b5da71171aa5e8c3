/-! ===== told: the model's ways and their next towns ===== -/
def nxq (T W : Nat → Nat → Nat) (a b x : Nat) : Prop := 0 < T a x ∧ T a x + W x b = W a b
theorem D0_le {T : Nat → Nat → Nat} (h : Tok T) {a b : Nat} (ha : a < 5) (hb : b < 5) : D0q T a b ≤ 1000000 := by
  have := h a ha b hb
  unfold D0q
  split
  · omega
  · split <;> omega
theorem e_next {T W : Nat → Nat → Nat} {M : zMM} (hT : Tok T) (hW : mWq W M) (hWb : ∀ a, a < 5 → ∀ b, b < 5 → W a b ≤ 1000000) (h14 : ∀ a, a < 5 → ∀ b, b < 5 → M 114 (5 * a + b) = nI (T a b)) {a b : Nat} (ha : a < 5) (hb : b < 5) : ∃ v, f_X8_nextOf_107 (nI a) (nI b) M = some (v, M) ∧ (a ≠ b → W a b < 1000000 → (∃ x, x < 5 ∧ nxq T W a b x) → ∃ x, x < 5 ∧ v = nI x ∧ nxq T W a b x ∧ ∀ y, y < x → ¬ nxq T W a b y) := by
  have loop : ∀ m c, c + m = 5 → ∀ fu, m < fu → (∀ y, y < c → ¬ nxq T W a b y) → ∃ v, f_X8_nextOf_107_p2 fu (nI a) (nI b) (nI c) M = some (v, M) ∧ (a ≠ b → W a b < 1000000 → (∃ x, x < 5 ∧ nxq T W a b x) → ∃ x, x < 5 ∧ v = nI x ∧ nxq T W a b x ∧ ∀ y, y < x → ¬ nxq T W a b y) := by
    intro m
    induction m with
    | zero =>
      intro c hc fu hfu hno
      obtain ⟨fu, rfl⟩ : ∃ y, fu = y + 1 := ⟨fu - 1, by omega⟩
      refine ⟨-1, ?_, fun _ _ ⟨x, x1, x2⟩ => absurd x2 (hno x (by omega))⟩
      show (if (5 : Int32) ≤ nI c then _ else _) = _
      rw [if_pos (show (5 : Int32) ≤ nI c from nI_le (a := 5) (by omega) (by omega))]
    | succ m ih =>
      intro c hc fu hfu hno
      obtain ⟨fu, rfl⟩ : ∃ y, fu = y + 1 := ⟨fu - 1, by omega⟩
      have w1 := hWb a ha b hb
      have w2 := hWb c (by omega) b hb
      have w3 := hT a ha c (by omega)
      have e : f_X8_nextOf_107_p2 (fu + 1) (nI a) (nI b) (nI c) M = if nI a = nI b then some ((-1 : Int32), M) else if (1000000 : Int32) ≤ nI (W a b) then some ((-1 : Int32), M) else if nI (T a c) ≤ 0 then f_X8_nextOf_107_p2 fu (nI a) (nI b) (nI (c + 1)) M else if nI (T a c + W c b) = nI (W a b) then some (nI c, M) else f_X8_nextOf_107_p2 fu (nI a) (nI b) (nI (c + 1)) M := by
        show (if (5 : Int32) ≤ nI c then _ else _) = _
        rw [if_neg (show ¬ (5 : Int32) ≤ nI c from nI_ge (b := 5) (by omega) (by decide)), nI_15, nI_15, nI_15, z_ib_n (n := 5 * a + b) (N := 25) (by decide) (by omega), z_ib_n (n := 5 * a + c) (N := 50) (by decide) (by omega), z_ib_n (n := 5 * c + b) (N := 25) (by decide) (by omega), if_pos rfl, if_pos rfl, if_pos rfl, if_pos rfl, if_pos rfl, nI_clamp (show 5 * a + b < 2 ^ 31 by omega), nI_clamp (show 5 * a + c < 2 ^ 31 by omega), nI_clamp (show 5 * c + b < 2 ^ 31 by omega), hW a ha b hb, hW c (by omega) b hb, h14 a ha c (by omega), nI_add, nI_1]
      rw [e]
      by_cases hab : a = b
      · rw [if_pos (by rw [hab])]
        exact ⟨-1, rfl, fun z => absurd hab z⟩
      · rw [if_neg (fun z => hab ((nI_eq (by omega) (by omega)).mp z))]
        by_cases hbig : 1000000 ≤ W a b
        · rw [if_pos (show (1000000 : Int32) ≤ nI (W a b) from nI_le (a := 1000000) hbig (by omega))]
          exact ⟨-1, rfl, fun _ z => absurd z (by omega)⟩
        · rw [if_neg (show ¬ (1000000 : Int32) ≤ nI (W a b) from nI_ge (b := 1000000) (by omega) (by decide))]
          have more : ¬ nxq T W a b c → ∃ v, f_X8_nextOf_107_p2 fu (nI a) (nI b) (nI (c + 1)) M = some (v, M) ∧ (a ≠ b → W a b < 1000000 → (∃ x, x < 5 ∧ nxq T W a b x) → ∃ x, x < 5 ∧ v = nI x ∧ nxq T W a b x ∧ ∀ y, y < x → ¬ nxq T W a b y) := fun hn => ih (c + 1) (by omega) fu (by omega) (fun y hy => by
            by_cases hyc : y = c
            · rw [hyc]; exact hn
            · exact hno y (by omega))
          by_cases ht : T a c = 0
          · rw [if_pos (show nI (T a c) ≤ (0 : Int32) by rw [ht]; decide)]
            exact more (fun z => by have := z.1; omega)
          · rw [if_neg (show ¬ nI (T a c) ≤ (0 : Int32) from nI_ge (a := 0) (b := T a c) (by omega) (by omega))]
            by_cases hs : T a c + W c b = W a b
            · rw [if_pos (by rw [hs])]
              exact ⟨nI c, rfl, fun _ _ _ => ⟨c, by omega, rfl, ⟨by omega, hs⟩, hno⟩⟩
            · rw [if_neg (fun z => hs ((nI_eq (by omega) (by omega)).mp z))]
              exact more (fun z => hs z.2)
  exact loop 5 0 (by decide) z_fuel (by decide) (fun y hy => absurd hy (by omega))
def nWq (T W : Nat → Nat → Nat) (a b : Nat) (M : zMM) : Prop := ∀ x, x < 5 → ∀ y, y < 5 → x < a ∨ (x = a ∧ y < b) → x ≠ y → W x y < 1000000 → ∃ z, z < 5 ∧ M 127 (5 * x + y) = nI z ∧ nxq T W x y z ∧ ∀ v, v < z → ¬ nxq T W x y v
theorem n_in {K : Int32 → zMM → Option zMM} {T W : Nat → Nat → Nat} (hT : Tok T) (hWb : ∀ a, a < 5 → ∀ b, b < 5 → W a b ≤ 1000000) (hX : ∀ a, a < 5 → ∀ b, b < 5 → a ≠ b → W a b < 1000000 → ∃ x, x < 5 ∧ nxq T W a b x) {a : Nat} (ha : a < 5) : ∀ m b, b + m = 5 → ∀ fu M, m < fu → mWq W M → (∀ a, a < 5 → ∀ b, b < 5 → M 114 (5 * a + b) = nI (T a b)) → nWq T W a b M → ∃ M', f_X8_tellWays_107_p166 K fu (nI a) (nI b) M = K (nI (a + 1)) M' ∧ nWq T W (a + 1) 0 M' ∧ ∀ c d, c ≠ 127 → M' c d = M c d := by
  intro m
  induction m with
  | zero =>
    intro b hb fu M hfu hW h14 hn
    obtain ⟨fu, rfl⟩ : ∃ y, fu = y + 1 := ⟨fu - 1, by omega⟩
    refine ⟨M, ?_, fun x hx y hy hxy => hn x hx y hy (by omega), fun _ _ _ => rfl⟩
    show (if (5 : Int32) ≤ nI b then _ else _) = _
    rw [if_pos (show (5 : Int32) ≤ nI b from nI_le (a := 5) (by omega) (by omega)), nI_1]
  | succ m ih =>
    intro b hb fu M hfu hW h14 hn
    obtain ⟨fu, rfl⟩ : ∃ y, fu = y + 1 := ⟨fu - 1, by omega⟩
    obtain ⟨v, v1, v2⟩ := e_next hT hW hWb h14 ha (show b < 5 by omega)
    obtain ⟨M', m1, m2, m3⟩ := ih (b + 1) (by omega) fu (z_up M 127 (5 * a + b) v) (by omega) hW h14 (by
      intro x hx y hy hxy hne hlt
      by_cases h : x = a ∧ y = b
      · rw [h.1, h.2] at hne hlt ⊢
        obtain ⟨z, z1, z2, z3, z4⟩ := v2 hne hlt (hX a ha b (by omega) hne hlt)
        exact ⟨z, z1, by rw [z_up_s]; exact z2, z3, z4⟩
      · obtain ⟨z, z1, z2, z3, z4⟩ := hn x hx y hy (by omega) hne hlt
        exact ⟨z, z1, by rw [z_up_n (by omega)]; exact z2, z3, z4⟩)
    refine ⟨M', ?_, m2, fun c d hc => (m3 c d hc).trans (z_up_o hc)⟩
    show (if (5 : Int32) ≤ nI b then _ else _) = _
    rw [if_neg (show ¬ (5 : Int32) ≤ nI b from nI_ge (b := 5) (by omega) (by decide)), v1, z_bi_s, nI_15, if_pos (z_ib_n (by decide) (by omega)), nI_clamp (by omega), nI_1]
    exact m1
theorem n_all {T W : Nat → Nat → Nat} (hT : Tok T) (hWb : ∀ a, a < 5 → ∀ b, b < 5 → W a b ≤ 1000000) (hX : ∀ a, a < 5 → ∀ b, b < 5 → a ≠ b → W a b < 1000000 → ∃ x, x < 5 ∧ nxq T W a b x) : ∀ m a, a + m = 5 → ∀ fu M, m < fu → mWq W M → (∀ a, a < 5 → ∀ b, b < 5 → M 114 (5 * a + b) = nI (T a b)) → nWq T W a 0 M → ∃ M', f_X8_tellWays_107_p159 fu (nI a) M = some M' ∧ nWq T W 5 0 M' ∧ ∀ c d, c ≠ 127 → M' c d = M c d := by
  intro m
  induction m with
  | zero =>
    intro a ha fu M hfu hW h14 hn
    obtain ⟨fu, rfl⟩ : ∃ y, fu = y + 1 := ⟨fu - 1, by omega⟩
    refine ⟨M, ?_, ?_, fun _ _ _ => rfl⟩
    · show (if (5 : Int32) ≤ nI a then _ else _) = _
      rw [if_pos (show (5 : Int32) ≤ nI a from nI_le (a := 5) (by omega) (by omega))]
    · have ha5 : a = 5 := by omega
      rw [ha5] at hn; exact hn
  | succ m ih =>
    intro a ha fu M hfu hW h14 hn
    obtain ⟨fu, rfl⟩ : ∃ y, fu = y + 1 := ⟨fu - 1, by omega⟩
    obtain ⟨A, a1, a2, a3⟩ := n_in (K := f_X8_tellWays_107_p159 fu) hT hWb hX (show a < 5 by omega) 5 0 (by decide) z_fuel M (by decide) hW h14 hn
    obtain ⟨M', m1, m2, m3⟩ := ih (a + 1) (by omega) fu A (by omega) (fun x hx y hy => by rw [a3 126 _ (by decide)]; exact hW x hx y hy) (fun x hx y hy => by rw [a3 114 _ (by decide)]; exact h14 x hx y hy) a2
    refine ⟨M', ?_, m2, fun c d hc => (m3 c d hc).trans (a3 c d hc)⟩
    show (if (5 : Int32) ≤ nI a then _ else _) = _
    rw [if_neg (show ¬ (5 : Int32) ≤ nI a from nI_ge (b := 5) (by omega) (by decide))]
    exact a1.trans m1
def iWq (T : Nat → Nat → Nat) (a b : Nat) (M : zMM) : Prop := ∀ x, x < 5 → ∀ y, y < 5 → x < a ∨ (x = a ∧ y < b) → M 126 (5 * x + y) = nI (D0q T x y)
theorem i_in {K : Int32 → zMM → Option zMM} {T : Nat → Nat → Nat} (hT : Tok T) {a : Nat} (ha : a < 5) : ∀ m b, b + m = 5 → ∀ fu M, m < fu → (∀ a, a < 5 → ∀ b, b < 5 → M 114 (5 * a + b) = nI (T a b)) → iWq T a b M → ∃ M', f_X8_tellWays_107_p9 K fu (nI a) (nI b) M = K (nI (a + 1)) M' ∧ iWq T (a + 1) 0 M' ∧ ∀ c d, c ≠ 126 → M' c d = M c d := by
  intro m
  induction m with
  | zero =>
    intro b hb fu M hfu h14 hn
    obtain ⟨fu, rfl⟩ : ∃ y, fu = y + 1 := ⟨fu - 1, by omega⟩
    refine ⟨M, ?_, fun x hx y hy hxy => hn x hx y hy (by omega), fun _ _ _ => rfl⟩
    show (if (5 : Int32) ≤ nI b then _ else _) = _
    rw [if_pos (show (5 : Int32) ≤ nI b from nI_le (a := 5) (by omega) (by omega)), nI_1]
  | succ m ih =>
    intro b hb fu M hfu h14 hn
    obtain ⟨fu, rfl⟩ : ∃ y, fu = y + 1 := ⟨fu - 1, by omega⟩
    have ht := hT a ha b (by omega)
    have e : f_X8_tellWays_107_p9 K (fu + 1) (nI a) (nI b) M = f_X8_tellWays_107_p9 K fu (nI a) (nI (b + 1)) (z_up M 126 (5 * a + b) (nI (D0q T a b))) := by
      show (if (5 : Int32) ≤ nI b then _ else _) = _
      rw [if_neg (show ¬ (5 : Int32) ≤ nI b from nI_ge (b := 5) (by omega) (by decide)), nI_15, z_ib_n (n := 5 * a + b) (N := 25) (by decide) (by omega), z_ib_n (n := 5 * a + b) (N := 50) (by decide) (by omega), nI_clamp (by omega), nI_1, h14 a ha b (by omega)]
      unfold D0q
      by_cases hab : a = b
      · rw [if_pos (show nI a = nI b by rw [hab]), if_pos rfl, if_pos hab]
        rfl
      · rw [if_neg (fun z => hab ((nI_eq (by omega) (by omega)).mp z)), if_neg hab, if_pos rfl]
        by_cases h0 : T a b = 0
        · rw [if_pos (show nI (T a b) ≤ (0 : Int32) by rw [h0]; decide), if_pos rfl, if_pos h0]
          rfl
        · rw [if_neg (show ¬ nI (T a b) ≤ (0 : Int32) from nI_ge (a := 0) (b := T a b) (by omega) (by omega)), if_pos rfl, if_pos rfl, if_neg h0]
    obtain ⟨M', m1, m2, m3⟩ := ih (b + 1) (by omega) fu (z_up M 126 (5 * a + b) (nI (D0q T a b))) (by omega) h14 (by
      intro x hx y hy hxy
      by_cases h : x = a ∧ y = b
      · rw [h.1, h.2, z_up_s]
      · rw [z_up_n (by omega)]
        exact hn x hx y hy (by omega))
    exact ⟨M', e.trans m1, m2, fun c d hc => (m3 c d hc).trans (z_up_o hc)⟩
theorem i_all {T : Nat → Nat → Nat} (hT : Tok T) : ∀ m a, a + m = 5 → ∀ fu M, m < fu → (∀ a, a < 5 → ∀ b, b < 5 → M 114 (5 * a + b) = nI (T a b)) → iWq T a 0 M → ∃ M', f_X8_tellWays_107_p2 fu (nI a) M = f_X8_tellWays_107_p76 z_fuel (0 : Int32) M' ∧ iWq T 5 0 M' ∧ ∀ c d, c ≠ 126 → M' c d = M c d := by
  intro m
  induction m with
  | zero =>
    intro a ha fu M hfu h14 hn
    obtain ⟨fu, rfl⟩ : ∃ y, fu = y + 1 := ⟨fu - 1, by omega⟩
    refine ⟨M, ?_, ?_, fun _ _ _ => rfl⟩
    · show (if (5 : Int32) ≤ nI a then _ else _) = _
      rw [if_pos (show (5 : Int32) ≤ nI a from nI_le (a := 5) (by omega) (by omega))]
    · have ha5 : a = 5 := by omega
      rw [ha5] at hn; exact hn
  | succ m ih =>
    intro a ha fu M hfu h14 hn
    obtain ⟨fu, rfl⟩ : ∃ y, fu = y + 1 := ⟨fu - 1, by omega⟩
    obtain ⟨A, a1, a2, a3⟩ := i_in (K := f_X8_tellWays_107_p2 fu) hT (show a < 5 by omega) 5 0 (by decide) z_fuel M (by decide) h14 hn
    obtain ⟨M', m1, m2, m3⟩ := ih (a + 1) (by omega) fu A (by omega) (fun x hx y hy => by rw [a3 114 _ (by decide)]; exact h14 x hx y hy) a2
    refine ⟨M', ?_, m2, fun c d hc => (m3 c d hc).trans (a3 c d hc)⟩
    show (if (5 : Int32) ≤ nI a then _ else _) = _
    rw [if_neg (show ¬ (5 : Int32) ≤ nI a from nI_ge (b := 5) (by omega) (by decide))]
    exact a1.trans m1
theorem m_ways {T : Nat → Nat → Nat} {M : zMM} (hT : Tok T) (hT0 : ∀ a, a < 5 → T a a = 0) (h14 : ∀ a, a < 5 → ∀ b, b < 5 → M 114 (5 * a + b) = nI (T a b)) : ∃ M', f_X8_tellWays_107 M = some M' ∧ mWq (Wq (D0q T) 5) M' ∧ nWq T (Wq (D0q T) 5) 5 0 M' ∧ ∀ c d, c ≠ 126 → c ≠ 127 → M' c d = M c d := by
  have hWb : ∀ a, a < 5 → ∀ b, b < 5 → Wq (D0q T) 5 a b ≤ 1000000 := fun a ha b hb => Nat.le_trans (Wq_le 5 a b) (D0_le hT ha hb)
  have hX : ∀ a, a < 5 → ∀ b, b < 5 → a ≠ b → Wq (D0q T) 5 a b < 1000000 → ∃ x, x < 5 ∧ nxq T (Wq (D0q T) 5) a b x := by
    refine Wq_next D0_d ?_ hT0 ?_
    · intro a ha b hb hab hlt
      unfold D0q at hlt ⊢
      rw [if_neg hab] at hlt ⊢
      by_cases h0 : T a b = 0
      · rw [if_pos h0] at hlt; omega
      · rw [if_neg h0]; exact ⟨by omega, rfl⟩
    · intro a ha b hb hab h0
      unfold D0q
      rw [if_neg hab, if_neg (by omega)]
  obtain ⟨A, a1, a2, a3⟩ := i_all hT 5 0 (by decide) z_fuel M (by decide) h14 (fun x hx y hy h => by omega)
  obtain ⟨B, b1, b2, b3⟩ := mW_all D0_d (D0_b hT) 5 0 (by decide) z_fuel A (by decide) (fun x hx y hy => a2 x hx y hy (by omega))
  obtain ⟨E, e1, e2, e3⟩ := n_all hT hWb hX 5 0 (by decide) z_fuel B (by decide) b2 (fun x hx y hy => by rw [b3 114 _ (by decide), a3 114 _ (by decide)]; exact h14 x hx y hy) (fun x hx y hy h => by omega)
  refine ⟨E, ?_, fun x hx y hy => by rw [e3 126 _ (by decide)]; exact b2 x hx y hy, e2, fun c d h6 h7 => (e3 c d h7).trans ((b3 c d h6).trans (a3 c d h6))⟩
  unfold f_X8_tellWays_107
  exact a1.trans (b1.trans e1)
