/-! ===== filling needs: by things one after another, and by needs one after another ===== -/
def zA (q : Nat → Nat → Nat) : Nat → (Nat → Bool) → Nat → Nat → Prop
  | 0, _, S, v => S = 0 ∧ v = 0
  | m + 1, L, S, v => zA q m L S v ∨ (L m = true ∧ ∃ j w, j < 4 ∧ S.testBit j = true ∧ q m j < 100 ∧ v = q m j + w ∧ zA q m L (S - 2 ^ j) w)
def zR (q : Nat → Nat → Nat) (c : Nat) : Nat → Nat → (Nat → Bool) → Nat → Nat → Prop
  | 0, _, _, _, v => v = 0
  | k + 1, i, L, l, v => (∃ t w, t < 11 ∧ L t = true ∧ q t i < 100 ∧ v = q t i + w ∧ zR q c k (i + 1) (fun u => L u && !decide (u = t)) l w) ∨ (0 < l ∧ ∃ w, v = c + w ∧ zR q c k (i + 1) L (l - 1) w)
def pc4 (S : Nat) : Nat := (S.testBit 0).toNat + (S.testBit 1).toNat + (S.testBit 2).toNat + (S.testBit 3).toNat
theorem b4_r1 : ∀ S : Nat, S < 16 → ∀ j : Nat, j < 4 → S.testBit j = true → S - 2 ^ j < 16 ∧ pc4 (S - 2 ^ j) + 1 = pc4 S ∧ (S - 2 ^ j).testBit j = false := by decide +kernel
theorem b4_r2 : ∀ S : Nat, S < 16 → ∀ j : Nat, j < 4 → ∀ i : Nat, i < 4 → (S.testBit j = false ∨ i = j ∨ (S - 2 ^ j).testBit i = S.testBit i) := by decide +kernel
theorem b4_rem (S : Nat) (hS : S < 16) (j : Nat) (hj : j < 4) (hb : S.testBit j = true) : S - 2 ^ j < 16 ∧ pc4 (S - 2 ^ j) + 1 = pc4 S ∧ (S - 2 ^ j).testBit j = false ∧ ∀ i : Nat, i < 4 → (i = j ∨ (S - 2 ^ j).testBit i = S.testBit i) := by
  obtain ⟨h1, h2, h3⟩ := b4_r1 S hS j hj hb
  refine ⟨h1, h2, h3, fun i hi => (b4_r2 S hS j hj i hi).resolve_left (fun q => ?_)⟩
  rw [hb] at q
  exact absurd q (by decide)
theorem b4_com : ∀ S : Nat, S < 16 → ∀ j : Nat, j < 4 → ∀ i : Nat, i < 4 → S - 2 ^ j - 2 ^ i = S - 2 ^ i - 2 ^ j := by decide +kernel
theorem b4_dbl : ∀ S : Nat, S < 8 → (2 * S).testBit 0 = false ∧ (2 * S + 1).testBit 0 = true ∧ pc4 (2 * S) = pc4 S ∧ pc4 (2 * S + 1) = pc4 S + 1 ∧ (S.testBit 3 = false) ∧ ∀ j : Nat, j < 3 → (2 * S).testBit (j + 1) = S.testBit j ∧ (S.testBit j = true → 2 * S - 2 ^ (j + 1) = 2 * (S - 2 ^ j) ∧ S - 2 ^ j < 8) := by decide +kernel
theorem b4_pc : ∀ S : Nat, S < 16 → pc4 S ≤ 4 := by decide +kernel
theorem b4_0 : ∀ j : Nat, (0 : Nat).testBit j = false := Nat.zero_testBit
theorem zA.bd {q : Nat → Nat → Nat} : ∀ {m : Nat} {L : Nat → Bool} {S v : Nat}, S < 16 → zA q m L S v → v ≤ 99 * pc4 S := by
  intro m
  induction m with
  | zero =>
    intro L S v _ h
    obtain ⟨rfl, rfl⟩ := h
    exact Nat.zero_le _
  | succ m ih =>
    intro L S v hS h
    rcases h with h | ⟨_, j, w, hj, hb, hq, rfl, h⟩
    · exact ih hS h
    · obtain ⟨b1, b2, _, _⟩ := b4_rem S hS j hj hb
      have := ih b1 h
      omega
theorem zA.cg {q : Nat → Nat → Nat} : ∀ {m : Nat} {L L' : Nat → Bool} {S v : Nat}, (∀ t, t < m → L t = L' t) → zA q m L S v → zA q m L' S v := by
  intro m
  induction m with
  | zero => intro L L' S v _ h; exact h
  | succ m ih =>
    intro L L' S v hL h
    rcases h with h | ⟨h1, j, w, hj, hb, hq, hv, h⟩
    · exact Or.inl (ih (fun t ht => hL t (by omega)) h)
    · exact Or.inr ⟨(hL m (by omega)) ▸ h1, j, w, hj, hb, hq, hv, ih (fun t ht => hL t (by omega)) h⟩
theorem zA.mono {q : Nat → Nat → Nat} : ∀ {m : Nat} {L L' : Nat → Bool} {S v : Nat}, (∀ t, t < m → L t = true → L' t = true) → zA q m L S v → zA q m L' S v := by
  intro m
  induction m with
  | zero => intro L L' S v _ h; exact h
  | succ m ih =>
    intro L L' S v hL h
    rcases h with h | ⟨h1, j, w, hj, hb, hq, hv, h⟩
    · exact Or.inl (ih (fun t ht => hL t (by omega)) h)
    · exact Or.inr ⟨hL m (by omega) h1, j, w, hj, hb, hq, hv, ih (fun t ht => hL t (by omega)) h⟩
/-- a need is filled by some thing -/
theorem zA.take {q : Nat → Nat → Nat} {i : Nat} (hi : i < 4) : ∀ {m : Nat} {L : Nat → Bool} {S v : Nat}, S < 16 → S.testBit i = true → zA q m L S v → ∃ t w, t < m ∧ L t = true ∧ q t i < 100 ∧ v = q t i + w ∧ zA q m (fun u => L u && !decide (u = t)) (S - 2 ^ i) w := by
  intro m
  induction m with
  | zero =>
    intro L S v _ hb h
    obtain ⟨rfl, rfl⟩ := h
    rw [b4_0] at hb
    exact absurd hb (by decide)
  | succ m ih =>
    intro L S v hS hb h
    rcases h with h | ⟨h1, j, w, hj, hbj, hq, hv, h⟩
    · obtain ⟨t, w, ht, hL, hq, hv, h⟩ := ih hS hb h
      exact ⟨t, w, by omega, hL, hq, hv, Or.inl h⟩
    · by_cases hji : j = i
      · subst hji
        refine ⟨m, w, by omega, h1, hq, hv, Or.inl (h.cg (fun t ht => ?_))⟩
        simp [show ¬ t = m by omega]
      · obtain ⟨b1, b2, b3, b4'⟩ := b4_rem S hS j hj hbj
        have b4 : ∀ i, i < 4 → i ≠ j → (S - 2 ^ j).testBit i = S.testBit i := fun i hi hn => (b4' i hi).resolve_left hn
        obtain ⟨t, w2, ht, hL, hq2, hv2, h2⟩ := ih b1 (by rw [b4 i hi (fun z => hji z.symm)]; exact hb) h
        obtain ⟨c1, c2, c3, c4'⟩ := b4_rem S hS i hi hb
        have c4 : ∀ j, j < 4 → j ≠ i → (S - 2 ^ i).testBit j = S.testBit j := fun j hj hn => (c4' j hj).resolve_left hn
        refine ⟨t, q m j + w2, by omega, hL, hq2, by omega, Or.inr ⟨?_, j, w2, hj, ?_, hq, rfl, ?_⟩⟩
        · show (L m && !decide (m = t)) = true
          rw [h1, Bool.true_and, decide_eq_false (by omega)]; rfl
        · rw [c4 j hj hji]; exact hbj
        · rw [b4_com S hS i hi j hj]; exact h2
theorem zA.give {q : Nat → Nat → Nat} {i : Nat} (hi : i < 4) : ∀ {m : Nat} {L : Nat → Bool} {S w t : Nat}, S < 16 → S.testBit i = true → t < m → L t = true → q t i < 100 → zA q m (fun u => L u && !decide (u = t)) (S - 2 ^ i) w → zA q m L S (q t i + w) := by
  intro m
  induction m with
  | zero => intro L S w t _ _ ht; omega
  | succ m ih =>
    intro L S w t hS hb ht hL hq h
    by_cases htm : t = m
    · subst htm
      rcases h with h | ⟨h1, _⟩
      · refine Or.inr ⟨hL, i, w, hi, hb, hq, rfl, h.cg (fun u hu => ?_)⟩
        simp [show ¬ u = t by omega]
      · exfalso
        have : (L t && !decide (t = t)) = true := h1
        simp at this
    · rcases h with h | ⟨h1, j, w2, hj, hbj, hq2, rfl, h⟩
      · exact Or.inl (ih hS hb (by omega) hL hq h)
      · obtain ⟨c1, c2, c3, c4'⟩ := b4_rem S hS i hi hb
        have c4 : ∀ j, j < 4 → j ≠ i → (S - 2 ^ i).testBit j = S.testBit j := fun j hj hn => (c4' j hj).resolve_left hn
        have hji : j ≠ i := by
          intro z
          subst z
          rw [c3] at hbj
          exact absurd hbj (by decide)
        rw [c4 j hj hji] at hbj
        obtain ⟨b1, b2, b3, b4'⟩ := b4_rem S hS j hj hbj
        have b4 : ∀ i, i < 4 → i ≠ j → (S - 2 ^ j).testBit i = S.testBit i := fun i hi hn => (b4' i hi).resolve_left hn
        have h1' : L m = true := by
          have : (L m && !decide (m = t)) = true := h1
          rw [Bool.and_eq_true] at this
          exact this.1
        refine Or.inr ⟨h1', j, q t i + w2, hj, hbj, hq2, by omega, ?_⟩
        refine ih b1 (by rw [b4 i hi (fun z => hji z.symm)]; exact hb) (by omega) hL hq ?_
        rw [b4_com S hS j hj i hi]
        exact h
/-- needs one further on -/
theorem zA.shift {q q' : Nat → Nat → Nat} (hqq : ∀ t j, q' t j = q t (j + 1)) : ∀ {m : Nat} {L : Nat → Bool} {S v : Nat}, S < 8 → (zA q m L (2 * S) v ↔ zA q' m L S v) := by
  intro m
  induction m with
  | zero =>
    intro L S v _
    show (2 * S = 0 ∧ v = 0) ↔ (S = 0 ∧ v = 0)
    omega
  | succ m ih =>
    intro L S v hS
    obtain ⟨d1, d2, d3, d4, d5, d6⟩ := b4_dbl S hS
    constructor
    · rintro (h | ⟨h1, j, w, hj, hb, hq, hv, h⟩)
      · exact Or.inl ((ih hS).mp h)
      · cases j with
        | zero => rw [d1] at hb; exact absurd hb (by decide)
        | succ j =>
          obtain ⟨e1, e2⟩ := d6 j (by omega)
          rw [e1] at hb
          obtain ⟨e3, e4⟩ := e2 hb
          rw [e3] at h
          exact Or.inr ⟨h1, j, w, by omega, hb, by rw [hqq]; exact hq, by rw [hqq]; exact hv, (ih e4).mp h⟩
    · rintro (h | ⟨h1, j, w, hj, hb, hq, hv, h⟩)
      · exact Or.inl ((ih hS).mpr h)
      · have hj3 : j < 3 := by
          by_cases z : j = 3
          · subst z; rw [d5] at hb; exact absurd hb (by decide)
          · omega
        obtain ⟨e1, e2⟩ := d6 j hj3
        obtain ⟨e3, e4⟩ := e2 hb
        refine Or.inr ⟨h1, j + 1, w, by omega, by rw [e1]; exact hb, by rw [← hqq]; exact hq, by rw [← hqq]; exact hv, ?_⟩
        rw [e3]
        exact (ih e4).mpr h
theorem zR_cg {q q' : Nat → Nat → Nat} {c : Nat} : ∀ {k i : Nat} {L L' : Nat → Bool} {l v : Nat}, (∀ t, t < 11 → L t = L' t) → (∀ t j, t < 11 → L t = true → i ≤ j → j < i + k → q t j = q' t j) → zR q c k i L l v → zR q' c k i L' l v := by
  intro k
  induction k with
  | zero => intro i L L' l v _ _ h; exact h
  | succ k ih =>
    intro i L L' l v hL hq h
    rcases h with ⟨t, w, ht, h1, h2, h3, h4⟩ | ⟨h1, w, h2, h3⟩
    · have e := hq t i ht h1 (Nat.le_refl _) (by omega)
      refine Or.inl ⟨t, w, ht, (hL t ht) ▸ h1, e ▸ h2, by rw [← e]; exact h3, ih (fun u hu => by rw [hL u hu]) (fun u j hu hLu h5 h6 => hq u j hu (by
        rw [Bool.and_eq_true] at hLu; exact hLu.1) (by omega) (by omega)) h4⟩
    · exact Or.inr ⟨h1, w, h2, ih hL (fun u j hu hLu h5 h6 => hq u j hu hLu (by omega) (by omega)) h3⟩
theorem zR_mono {q : Nat → Nat → Nat} {c : Nat} : ∀ {k i : Nat} {L L' : Nat → Bool} {l v : Nat}, (∀ t, t < 11 → L t = true → L' t = true) → zR q c k i L l v → zR q c k i L' l v := by
  intro k
  induction k with
  | zero => intro i L L' l v _ h; exact h
  | succ k ih =>
    intro i L L' l v hL h
    rcases h with ⟨t, w, ht, h1, h2, h3, h4⟩ | ⟨h1, w, h2, h3⟩
    · refine Or.inl ⟨t, w, ht, hL t ht h1, h2, h3, ih (fun u hu hLu => ?_) h4⟩
      rw [Bool.and_eq_true] at hLu ⊢
      exact ⟨hL u hu hLu.1, hLu.2⟩
    · exact Or.inr ⟨h1, w, h2, ih hL h3⟩
theorem zR_bd {q : Nat → Nat → Nat} {c : Nat} (hc : c < 100) : ∀ {k i : Nat} {L : Nat → Bool} {l v : Nat}, zR q c k i L l v → v ≤ 99 * k := by
  intro k
  induction k with
  | zero => intro i L l v h; rw [show v = 0 from h]; omega
  | succ k ih =>
    intro i L l v h
    rcases h with ⟨t, w, ht, h1, h2, rfl, h4⟩ | ⟨h1, w, rfl, h3⟩
    · have := ih h4; omega
    · have := ih h3; omega
/-- both ways of filling are one -/
theorem zR_zA {q : Nat → Nat → Nat} {c : Nat} : ∀ {k i : Nat} {L : Nat → Bool} {l v : Nat}, k ≤ 4 → (zR q c k i L l v ↔ ∃ S w, S < 2 ^ k ∧ k - pc4 S ≤ l ∧ v = w + (k - pc4 S) * c ∧ zA (fun t j => q t (i + j)) 11 L S w) := by
  intro k
  induction k with
  | zero =>
    intro i L l v _
    constructor
    · intro h
      refine ⟨0, 0, by decide, by omega, by rw [show v = 0 from h]; simp, ?_⟩
      have : ∀ m, zA (fun t j => q t (i + j)) m L 0 0 := by
        intro m
        induction m with
        | zero => exact ⟨rfl, rfl⟩
        | succ m ih => exact Or.inl ih
      exact this 11
    · rintro ⟨S, w, hS, -, rfl, h⟩
      have : S = 0 := by omega
      subst this
      have := h.bd (by decide)
      have e : pc4 0 = 0 := by decide
      rw [e] at this
      show w + (0 - pc4 0) * c = 0
      rw [Nat.zero_sub, Nat.zero_mul]; omega
  | succ k ih =>
    intro i L l v hk
    have p2 : 2 ^ (k + 1) = 2 * 2 ^ k := by rw [Nat.pow_succ, Nat.mul_comm]
    have hk8 : 2 ^ k ≤ 8 := Nat.pow_le_pow_right (n := 2) (by decide) (show k ≤ 3 by omega)
    have hqq : ∀ t j, (fun t j => q t (i + 1 + j)) t j = (fun t j => q t (i + j)) t (j + 1) := by
      intro t j
      show q t (i + 1 + j) = q t (i + (j + 1))
      rw [show i + (j + 1) = i + 1 + j by omega]
    constructor
    · rintro (⟨t, w, ht, h1, h2, rfl, h4⟩ | ⟨h1, w, rfl, h3⟩)
      · obtain ⟨S, w2, hS, hl, rfl, hA⟩ := (ih (by omega)).mp h4
        obtain ⟨d1, d2, d3, d4, d5, d6⟩ := b4_dbl S (by omega)
        refine ⟨2 * S + 1, q t i + w2, by omega, by omega, by rw [d4, show k + 1 - (pc4 S + 1) = k - pc4 S by omega]; omega, ?_⟩
        rw [← zA.shift (q := fun t j => q t (i + j)) (q' := fun t j => q t (i + 1 + j)) hqq (by omega)] at hA
        exact zA.give (q := fun t j => q t (i + j)) (i := 0) (by decide) (by omega) d2 ht h1 h2 (by
          rw [show 2 * S + 1 - 2 ^ 0 = 2 * S by omega]; exact hA)
      · obtain ⟨S, w2, hS, hl, rfl, hA⟩ := (ih (by omega)).mp h3
        obtain ⟨d1, d2, d3, d4, d5, d6⟩ := b4_dbl S (by omega)
        rw [← zA.shift (q := fun t j => q t (i + j)) (q' := fun t j => q t (i + 1 + j)) hqq (by omega)] at hA
        have hpk : pc4 S ≤ k := by
          have key : ∀ k : Nat, k ≤ 3 → ∀ S : Nat, S < 2 ^ k → pc4 S ≤ k := by decide +kernel
          exact key k (by omega) S hS
        refine ⟨2 * S, w2, by omega, by omega, ?_, hA⟩
        rw [d3, show k + 1 - pc4 S = (k - pc4 S) + 1 by omega, Nat.succ_mul]; omega
    · rintro ⟨S, w, hS, hl, rfl, hA⟩
      obtain ⟨T, hT⟩ : ∃ T, S = 2 * T ∨ S = 2 * T + 1 := ⟨S / 2, by omega⟩
      have hT8 : T < 2 ^ k := by omega
      obtain ⟨d1, d2, d3, d4, d5, d6⟩ := b4_dbl T (by omega)
      rcases hT with rfl | rfl
      · have hpk : pc4 T ≤ k := by
          have key : ∀ k : Nat, k ≤ 3 → ∀ S : Nat, S < 2 ^ k → pc4 S ≤ k := by decide +kernel
          exact key k (by omega) T hT8
        rw [zA.shift (q := fun t j => q t (i + j)) (q' := fun t j => q t (i + 1 + j)) hqq (by omega)] at hA
        refine Or.inr ⟨by omega, w + (k - pc4 T) * c, ?_, (ih (by omega)).mpr ⟨T, w, hT8, by omega, rfl, hA⟩⟩
        rw [d3, show k + 1 - pc4 T = (k - pc4 T) + 1 by omega, Nat.succ_mul]; omega
      · obtain ⟨t, w2, ht, h1, h2, rfl, h3⟩ := hA.take (i := 0) (by decide) (by omega) d2
        rw [show 2 * T + 1 - 2 ^ 0 = 2 * T by omega, zA.shift (q := fun t j => q t (i + j)) (q' := fun t j => q t (i + 1 + j)) hqq (by omega)] at h3
        refine Or.inl ⟨t, w2 + (k - pc4 T) * c, ht, h1, h2, ?_, (ih (by omega)).mpr ⟨T, w2, hT8, by omega, rfl, h3⟩⟩
        rw [d4, show k + 1 - (pc4 T + 1) = k - pc4 T by omega]
        show q t (i + 0) + w2 + _ = q t i + (w2 + _)
        rw [Nat.add_zero]; omega
