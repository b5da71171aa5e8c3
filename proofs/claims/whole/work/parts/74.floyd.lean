/-! ===== told: shortest ways, in numbers ===== -/
def Fq (k : Nat) (D : Nat → Nat → Nat) : Nat → Nat → Nat := fun a b => min (D a b) (D a k + D k b)
def Wq (D : Nat → Nat → Nat) : Nat → Nat → Nat → Nat
  | 0 => D
  | k + 1 => Fq k (Wq D k)
def bndq (B : Nat) (D : Nat → Nat → Nat) : Prop := ∀ a, a < 5 → ∀ b, b < 5 → D a b = 1000000 ∨ D a b < B
theorem Fq_d {k : Nat} {D : Nat → Nat → Nat} (h : ∀ a, a < 5 → D a a = 0) : ∀ a, a < 5 → Fq k D a a = 0 := by
  intro a ha
  have := h a ha
  unfold Fq
  omega
theorem Fq_k {k a : Nat} {D : Nat → Nat → Nat} (h : D k k = 0) : Fq k D a k = D a k ∧ Fq k D k a = D k a := by
  unfold Fq
  constructor <;> omega
theorem Fq_b {k B : Nat} {D : Nat → Nat → Nat} (hk : k < 5) (h : bndq B D) : bndq (2 * B) (Fq k D) := by
  intro a ha b hb
  unfold Fq
  have h1 := h a ha b hb
  have h2 := h a ha k hk
  have h3 := h k hk b hb
  omega
theorem Wq_d {D : Nat → Nat → Nat} (h : ∀ a, a < 5 → D a a = 0) : ∀ k, ∀ a, a < 5 → Wq D k a a = 0 := by
  intro k
  induction k with
  | zero => exact h
  | succ k ih => exact Fq_d ih
theorem Wq_b {D : Nat → Nat → Nat} {B : Nat} (h : bndq B D) : ∀ k, k ≤ 5 → bndq (2 ^ k * B) (Wq D k) := by
  intro k
  induction k with
  | zero => intro _; rw [Nat.pow_zero, Nat.one_mul]; exact h
  | succ k ih =>
    intro hk
    rw [Nat.pow_succ, show 2 ^ k * 2 * B = 2 * (2 ^ k * B) by rw [Nat.mul_comm (2 ^ k) 2, Nat.mul_assoc]]
    exact Fq_b (by omega) (ih (by omega))
theorem Wq_le {D : Nat → Nat → Nat} : ∀ k a b, Wq D k a b ≤ D a b := by
  intro k
  induction k with
  | zero => intro a b; exact Nat.le_refl _
  | succ k ih =>
    intro a b
    exact Nat.le_trans (Nat.min_le_left _ _) (ih a b)
theorem Wq_t {D : Nat → Nat → Nat} (h : ∀ a, a < 5 → D a a = 0) : ∀ k, k ≤ 5 → ∀ c, c < k → ∀ a b, Wq D k a b ≤ Wq D k a c + Wq D k c b := by
  intro k
  induction k with
  | zero => intro _ c hc; omega
  | succ k ih =>
    intro hk c hc a b
    have hkk := Wq_d h k k (by omega)
    show Fq k (Wq D k) a b ≤ Fq k (Wq D k) a c + Fq k (Wq D k) c b
    by_cases hck : c = k
    · rw [hck, (Fq_k (a := a) hkk).1, (Fq_k (a := b) hkk).2]
      exact Nat.min_le_right _ _
    · have t1 := ih (by omega) c (by omega) a b
      have t2 := ih (by omega) c (by omega) a k
      have t3 := ih (by omega) c (by omega) k b
      unfold Fq
      omega
theorem Wq_n {D : Nat → Nat → Nat} {T : Nat → Nat → Nat} (h : ∀ a, a < 5 → D a a = 0) (hT : ∀ a, a < 5 → ∀ b, b < 5 → a ≠ b → D a b < 1000000 → 0 < T a b ∧ T a b = D a b) : ∀ k, k ≤ 5 → ∀ a, a < 5 → ∀ b, b < 5 → a ≠ b → Wq D k a b < 1000000 → ∃ x, x < 5 ∧ 0 < T a x ∧ T a x + Wq D k x b ≤ Wq D k a b := by
  intro k
  induction k with
  | zero =>
    intro _ a ha b hb hab hlt
    obtain ⟨q1, q2⟩ := hT a ha b hb hab hlt
    refine ⟨b, hb, q1, ?_⟩
    show T a b + D b b ≤ D a b
    rw [h b hb]
    omega
  | succ k ih =>
    intro hk a ha b hb hab hlt
    have hlt : Fq k (Wq D k) a b < 1000000 := hlt
    show ∃ x, x < 5 ∧ 0 < T a x ∧ T a x + Fq k (Wq D k) x b ≤ Fq k (Wq D k) a b
    by_cases hc : Wq D k a b ≤ Wq D k a k + Wq D k k b
    · have e : Fq k (Wq D k) a b = Wq D k a b := Nat.min_eq_left hc
      rw [e] at hlt ⊢
      obtain ⟨x, x1, x2, x3⟩ := ih (by omega) a ha b hb hab hlt
      refine ⟨x, x1, x2, ?_⟩
      have : Fq k (Wq D k) x b ≤ Wq D k x b := Nat.min_le_left _ _
      omega
    · have e : Fq k (Wq D k) a b = Wq D k a k + Wq D k k b := Nat.min_eq_right (by omega)
      rw [e] at hlt ⊢
      have hak : a ≠ k := by
        intro z
        rw [z] at hc
        omega
      obtain ⟨x, x1, x2, x3⟩ := ih (by omega) a ha k (by omega) hak (by omega)
      refine ⟨x, x1, x2, ?_⟩
      have : Fq k (Wq D k) x b ≤ Wq D k x k + Wq D k k b := Nat.min_le_right _ _
      omega
theorem Wq_next {D : Nat → Nat → Nat} {T : Nat → Nat → Nat} (h : ∀ a, a < 5 → D a a = 0) (hT : ∀ a, a < 5 → ∀ b, b < 5 → a ≠ b → D a b < 1000000 → 0 < T a b ∧ T a b = D a b) (hT0 : ∀ a, a < 5 → T a a = 0) (hT1 : ∀ a, a < 5 → ∀ b, b < 5 → a ≠ b → 0 < T a b → D a b = T a b) : ∀ a, a < 5 → ∀ b, b < 5 → a ≠ b → Wq D 5 a b < 1000000 → ∃ x, x < 5 ∧ 0 < T a x ∧ T a x + Wq D 5 x b = Wq D 5 a b := by
  intro a ha b hb hab hlt
  obtain ⟨x, x1, x2, x3⟩ := Wq_n h hT 5 (by decide) a ha b hb hab hlt
  refine ⟨x, x1, x2, ?_⟩
  have hax : a ≠ x := by
    intro z
    rw [← z, hT0 a ha] at x2
    omega
  have t1 := Wq_t h 5 (by decide) x x1 a b
  have t2 := Wq_le (D := D) 5 a x
  rw [hT1 a ha x x1 hax x2] at t2
  omega
