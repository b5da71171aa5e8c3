/-! ===== told: the class takes the new tale ===== -/
def Tcq (C : zMM) : Nat → Nat → Nat := fun a b => if C 71 (5 * a + b) = -1 then 0 else (C 71 (5 * a + b)).toNatClampNeg
theorem Tc_of {w : Nat} {C D : zMM} (h : dTrain w C D) : Tok (Tcq C) ∧ (∀ a, a < 5 → Tcq C a a = 0) ∧ (∀ a, a < 5 → ∀ b, b < 5 → (Tcq C a b = 0 ∧ C 71 (5 * a + b) = -1 ∧ D 114 (25 + (5 * a + b)) = 0) ∨ (0 < Tcq C a b ∧ C 71 (5 * a + b) = nI (Tcq C a b) ∧ D 114 (25 + (5 * a + b)) = nI (Tcq C a b))) := by
  have key : ∀ a, a < 5 → ∀ b, b < 5 → (Tcq C a b = 0 ∧ C 71 (5 * a + b) = -1 ∧ D 114 (25 + (5 * a + b)) = 0) ∨ (0 < Tcq C a b ∧ Tcq C a b ≤ 9 ∧ a ≠ b ∧ C 71 (5 * a + b) = nI (Tcq C a b) ∧ D 114 (25 + (5 * a + b)) = nI (Tcq C a b)) := by
    intro a ha b hb
    rcases h (5 * a + b) (by omega) with ⟨h1, h2⟩ | ⟨d, h1, h2, h3, h4, h5, h6, h7⟩
    · left
      refine ⟨?_, h1, h2⟩
      unfold Tcq
      rw [if_pos h1]
    · right
      have e : Tcq C a b = d := by
        unfold Tcq
        rw [h3, if_neg (nI_m1 (by omega)), nI_clamp (by omega)]
      rw [e]
      exact ⟨by omega, by omega, by omega, h3, h4⟩
  refine ⟨fun a ha b hb => ?_, fun a ha => ?_, fun a ha b hb => ?_⟩
  · rcases key a ha b hb with ⟨h1, -⟩ | ⟨-, h1, -⟩ <;> omega
  · rcases key a ha a ha with ⟨h1, -⟩ | ⟨-, -, h1, -⟩
    · exact h1
    · exact absurd rfl h1
  · rcases key a ha b hb with h1 | ⟨h1, -, -, h2, h3⟩
    · exact Or.inl h1
    · exact Or.inr ⟨h1, h2, h3⟩
theorem c_succ {u : Nat → Nat} {n e b t r w kk g p q : Nat} {C D Mc Mm : zMM} (h : GD u n e b t r C D Mc Mm) (hd : DR w kk g p q C D) : ∃ M1, (z_bv (f_X5_takeFrom_53_66 (z_up (z_up Mc 51 1 (0 : Int32)) 51 2 (Mc 79 10))) fun M12 => z_bv (f_X6_measure_80 M12) fun M15 => z_bv (f_X2_clear_83 M15) fun M18 => z_bv (f_X4_begin_87_53 M18) fun M21 => z_bv (f_X0_clear_101 M21) fun M24 => z_bv (f_X1_drop_103 M24) fun M27 => some (.inl (0 : Int32), z_up M27 51 10 (0 : Int32))) = some ((.inl (0 : Int32) : Int32 ⊕ Nat), M1) ∧
    (M1 53 0 = nI w ∧ M1 53 6 = nI kk ∧ M1 53 8 = nI g ∧ M1 53 11 = nI p ∧ M1 53 16 = nI q) ∧ (∀ i, i < 5 → M1 54 i = C 67 i ∧ M1 55 i = C 68 i ∧ M1 56 i = C 69 i ∧ M1 57 i = C 70 i) ∧ (∀ i, i < 25 → M1 58 i = C 71 i) ∧ (∀ i, i < 10 → M1 60 i = C 73 i ∧ M1 61 i = C 74 i) ∧ (∀ i, i < 4 → M1 62 i = C 75 i ∧ M1 63 i = C 76 i) ∧ (∀ i, i < 16 → M1 64 i = C 77 i) ∧ (∀ i, i < 400 → M1 65 i = C 78 i) ∧ cWq (Wq (D0q (Tcq C)) 5) M1 ∧ (∀ i, i < 640 → M1 84 i = -2) ∧ (∀ t, t < 5 → M1 88 t = (if t < kk then C 72 t else -1) ∧ M1 89 t = 0) ∧ M1 87 2 = 0 ∧ M1 87 3 = 0 ∧ M1 87 5 = 0 ∧ M1 101 2 = 0 ∧ M1 103 7 = 0 ∧ M1 51 1 = 0 ∧ M1 51 2 = -1 ∧ M1 51 10 = 0 := by
  have hC : ∀ a b, 66 ≤ a → a ≤ 78 → Mc a b = C a b := h.2.2.2.1
  have h10 := h.2.1.2
  obtain ⟨⟨w1, w2, w3⟩, ⟨k1, k2, k3⟩, ⟨g1, g2, g3⟩, ⟨p1, p2, p3⟩, ⟨q1, q1', q2, q3⟩, t1, t2, t3, t4, t5, t6⟩ := hd
  obtain ⟨c1, c2, c3⟩ := Tc_of t2
  obtain ⟨A, a1, a58, a53, a51⟩ : ∃ A, f_X5_takeFrom_53_66 (z_up (z_up Mc 51 1 (0 : Int32)) 51 2 (Mc 79 10)) = some A ∧ ((∀ i, i < 5 → A 54 i = C 67 i ∧ A 55 i = C 68 i ∧ A 56 i = C 69 i ∧ A 57 i = C 70 i ∧ A 59 i = C 72 i) ∧ (∀ i, i < 25 → A 58 i = C 71 i) ∧ (∀ i, i < 10 → A 60 i = C 73 i ∧ A 61 i = C 74 i) ∧ (∀ i, i < 4 → A 62 i = C 75 i ∧ A 63 i = C 76 i) ∧ (∀ i, i < 16 → A 64 i = C 77 i) ∧ (∀ i, i < 400 → A 65 i = C 78 i)) ∧ (A 53 0 = nI w ∧ A 53 6 = nI kk ∧ A 53 8 = nI g ∧ A 53 11 = nI p ∧ A 53 16 = nI q) ∧ (A 51 1 = 0 ∧ A 51 2 = -1) := by
    unfold f_X5_takeFrom_53_66
    simp only [z_bv_s]
    refine ⟨_, rfl, ⟨fun i hi => ⟨?_, ?_, ?_, ?_, ?_⟩, fun i hi => ?_, fun i hi => ⟨?_, ?_⟩, fun i hi => ⟨?_, ?_⟩, fun i hi => ?_, fun i hi => ?_⟩, ⟨?_, ?_, ?_, ?_, ?_⟩, ⟨rfl, h10⟩⟩
    · show (if i < 5 then Mc 67 i else _) = _
      rw [if_pos hi, hC _ _ (by decide) (by decide)]
    · show (if i < 5 then Mc 68 i else _) = _
      rw [if_pos hi, hC _ _ (by decide) (by decide)]
    · show (if i < 5 then Mc 69 i else _) = _
      rw [if_pos hi, hC _ _ (by decide) (by decide)]
    · show (if i < 5 then Mc 70 i else _) = _
      rw [if_pos hi, hC _ _ (by decide) (by decide)]
    · show (if i < 5 then Mc 72 i else _) = _
      rw [if_pos hi, hC _ _ (by decide) (by decide)]
    · show (if i < 25 then Mc 71 i else _) = _
      rw [if_pos hi, hC _ _ (by decide) (by decide)]
    · show (if i < 10 then Mc 73 i else _) = _
      rw [if_pos hi, hC _ _ (by decide) (by decide)]
    · show (if i < 10 then Mc 74 i else _) = _
      rw [if_pos hi, hC _ _ (by decide) (by decide)]
    · show (if i < 4 then Mc 75 i else _) = _
      rw [if_pos hi, hC _ _ (by decide) (by decide)]
    · show (if i < 4 then Mc 76 i else _) = _
      rw [if_pos hi, hC _ _ (by decide) (by decide)]
    · show (if i < 16 then Mc 77 i else _) = _
      rw [if_pos hi, hC _ _ (by decide) (by decide)]
    · show (if i < 400 then Mc 78 i else _) = _
      rw [if_pos hi, hC _ _ (by decide) (by decide)]
    · exact (hC 66 0 (by decide) (by decide)).trans w2
    · exact (hC 66 6 (by decide) (by decide)).trans k2
    · exact (hC 66 8 (by decide) (by decide)).trans g2
    · exact (hC 66 11 (by decide) (by decide)).trans p2
    · exact (hC 66 16 (by decide) (by decide)).trans q2
  obtain ⟨B, b1, b2, b3⟩ := c_meas (M := A) c1 (fun a ha b hb _ => by
    rw [a58.2.1 _ (by omega)]
    rcases c3 a ha b hb with ⟨x1, x2, -⟩ | ⟨x1, x2, -⟩
    · exact Or.inl ⟨x1, x2⟩
    · exact Or.inr ⟨x1, x2⟩)
  obtain ⟨E, e1, e2, e3, -⟩ := c_begin 5 0 (by decide) z_fuel (z_fl B 84 0 640 (-2 : Int32)) kk (by decide) ((b3 53 6 (by decide)).trans a53.2.1) k1
  have r : ∀ c d, c ≠ 88 → c ≠ 89 → c ≠ 84 → c ≠ 81 → E c d = A c d := by
    intro c d x1 x2 x3 x4
    rw [e2 c d x1 x2, ← b3 c d x4]
    show (if c = 84 then _ else B c d) = _
    rw [if_neg x3]
  refine ⟨z_up (z_up (z_up (z_up (z_up (z_up (z_up E 87 2 (0 : Int32)) 87 3 (0 : Int32)) 87 4 (0 : Int32)) 87 5 (0 : Int32)) 101 2 (0 : Int32)) 103 7 (0 : Int32)) 51 10 (0 : Int32), ?_, ?_, fun i hi => ?_, fun i hi => ?_, fun i hi => ?_, fun i hi => ?_, fun i hi => ?_, fun i hi => ?_, ?_, fun i hi => ?_, fun t' ht => ?_, rfl, rfl, rfl, rfl, rfl, ?_, ?_, rfl⟩
  · unfold f_X2_clear_83 f_X4_begin_87_53 f_X0_clear_101 f_X1_drop_103
    rw [a1, z_bv_s, b1, z_bv_s, z_bv_s, z_bv_s, show f_X4_begin_87_53_p2 z_fuel (0 : Int32) (z_fl B 84 0 640 (-2 : Int32)) = _ from e1]
    rfl
  · obtain ⟨x1, x2, x3, x4, x5⟩ := a53
    exact ⟨(r 53 0 (by decide) (by decide) (by decide) (by decide)).trans x1, (r 53 6 (by decide) (by decide) (by decide) (by decide)).trans x2, (r 53 8 (by decide) (by decide) (by decide) (by decide)).trans x3, (r 53 11 (by decide) (by decide) (by decide) (by decide)).trans x4, (r 53 16 (by decide) (by decide) (by decide) (by decide)).trans x5⟩
  · obtain ⟨x1, x2, x3, x4, -⟩ := a58.1 i hi
    exact ⟨(r 54 i (by decide) (by decide) (by decide) (by decide)).trans x1, (r 55 i (by decide) (by decide) (by decide) (by decide)).trans x2, (r 56 i (by decide) (by decide) (by decide) (by decide)).trans x3, (r 57 i (by decide) (by decide) (by decide) (by decide)).trans x4⟩
  · exact (r 58 i (by decide) (by decide) (by decide) (by decide)).trans (a58.2.1 i hi)
  · obtain ⟨x1, x2⟩ := a58.2.2.1 i hi
    exact ⟨(r 60 i (by decide) (by decide) (by decide) (by decide)).trans x1, (r 61 i (by decide) (by decide) (by decide) (by decide)).trans x2⟩
  · obtain ⟨x1, x2⟩ := a58.2.2.2.1 i hi
    exact ⟨(r 62 i (by decide) (by decide) (by decide) (by decide)).trans x1, (r 63 i (by decide) (by decide) (by decide) (by decide)).trans x2⟩
  · exact (r 64 i (by decide) (by decide) (by decide) (by decide)).trans (a58.2.2.2.2.1 i hi)
  · exact (r 65 i (by decide) (by decide) (by decide) (by decide)).trans (a58.2.2.2.2.2 i hi)
  · intro x hx y hy
    show E 81 (5 * x + y) = _
    rw [e2 81 _ (by decide) (by decide)]
    exact b2 x hx y hy
  · show E 84 i = _
    rw [e2 84 _ (by decide) (by decide)]
    show (if 0 ≤ i ∧ i < 640 then (-2 : Int32) else _) = -2
    rw [if_pos (by omega)]
  · obtain ⟨x1, x2⟩ := e3 t' (by omega) ht
    refine ⟨?_, x2⟩
    show E 88 t' = _
    rw [x1, show z_fl B 84 0 640 (-2 : Int32) 59 t' = B 59 t' from rfl, b3 59 _ (by decide), (a58.1 t' ht).2.2.2.2]
  · exact (r 51 1 (by decide) (by decide) (by decide) (by decide)).trans a51.1
  · exact (r 51 2 (by decide) (by decide) (by decide) (by decide)).trans a51.2
