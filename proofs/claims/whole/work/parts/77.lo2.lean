/-! ===== told: the invariant reads first halves only; bytes ===== -/
theorem by_key : ∀ i : Nat, i < 256 → ((Int32.ofInt ((i : Int) - 128)) &&& 255).toNatClampNeg < 256 ∧ ((Int32.ofInt ((i : Int) - 128)) &&& 255) = nI ((Int32.ofInt ((i : Int) - 128)) &&& 255).toNatClampNeg ∧ ((((Int32.ofInt ((i : Int) - 128)) &&& 255).toNatClampNeg < 128 ∧ (Int32.ofInt ((i : Int) - 128)) = nI ((Int32.ofInt ((i : Int) - 128)) &&& 255).toNatClampNeg) ∨ (128 ≤ ((Int32.ofInt ((i : Int) - 128)) &&& 255).toNatClampNeg ∧ (Int32.ofInt ((i : Int) - 128)) < 0)) := by decide +kernel
theorem by_one {x : Int32} (h : z_bd x (-128) 127) : (x &&& 255).toNatClampNeg < 256 ∧ (x &&& 255) = nI (x &&& 255).toNatClampNeg ∧ (((x &&& 255).toNatClampNeg < 128 ∧ x = nI (x &&& 255).toNatClampNeg) ∨ (128 ≤ (x &&& 255).toNatClampNeg ∧ x < 0)) := by
  obtain ⟨h1, h2⟩ := h
  have e : Int32.ofInt (((x.toInt + 128).toNat : Int) - 128) = x := by
    rw [show (((x.toInt + 128).toNat : Int) - 128) = x.toInt by omega]
    exact Int32.ofInt_toInt x
  have := by_key (x.toInt + 128).toNat (by omega)
  rw [e] at this
  exact this
theorem tape_B {n : Nat} {M : zMM} (h : j_tape M) (hn : nI n ≤ M 107 17) (hn7 : n < 2 ^ 31) : n ≤ 700 ∧ (∃ m, M 107 17 = nI m ∧ n ≤ m ∧ m ≤ 700) ∧ cB (fun i => (M 123 i).toNatClampNeg) n M ∧ mB (fun i => (M 123 i).toNatClampNeg) n M := by
  obtain ⟨h1, h2, h3⟩ := h
  obtain ⟨m, m1, m2, m3, m4⟩ := h2.nI
  have hnm : n ≤ m := by
    apply Nat.not_lt.mp
    intro z
    rw [m2] at hn
    exact nI_ge z hn7 hn
  refine ⟨by omega, ⟨m, m2, hnm, by omega⟩, ?_, ?_⟩
  · intro i hi
    obtain ⟨b1, b2⟩ := h3 i (by omega)
    have := by_one b1
    rw [← b2] at this
    exact ⟨this.1, this.2.2⟩
  · intro i hi
    obtain ⟨b1, b2⟩ := h3 i (by omega)
    have := by_one b1
    rw [← b2] at this
    exact ⟨this.1, this.2.1⟩
theorem told_x {k : Nat} {M : zMM} {a1 : Int32} (hI : z_I k M) (h : a1 < 0 ∨ ¬ a1 ≤ M 107 17) : ∃ (o : Int32 ⊕ Nat) (M1 : zMM) (b : Int32) (M2 : zMM), f_X7_told_51 a1 M = some (o, M1) ∧ f_X8_told_107 a1 M1 = some (b, M2) ∧ z_ag o b (M2 107 1) none (some 1) ∧ z_I (k + 1) M2 := by
  have q := hI.j_tape.1
  refine ⟨.inr 1, M, 0, z_up (z_up M 107 1 (0 : Int32)) 107 1 (1 : Int32), ?_, ?_, ⟨1, rfl, rfl, by decide⟩, hI.code ((z_fr.refl.up rfl).up rfl)⟩
  · unfold f_X7_told_51
    rw [q]
    rcases h with h | h
    · rw [if_pos h]
    · rw [if_neg h]
      split <;> rfl
  · unfold f_X8_told_107 f_X8_fail_107
    rw [z_bi_s]
    rcases h with h | h
    · rw [if_pos h]
    · rw [if_neg h]
      split <;> rfl
