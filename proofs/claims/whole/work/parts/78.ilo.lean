/-! ===== told: the invariant reads first halves only ===== -/
def w_dr : zWs := ([], [109, 110, 111, 112, 113, 114, 115, 116, 117, 118, 119, 120, 121])
theorem tL_lo {M M' : zMM} {s : Nat} (hl : LOq M M') (hg : (M 109 2).toNatClampNeg ≤ 10) : tL M' s = tL M s := by
  have e2 : M' 109 2 = M 109 2 := hl 109 2 (by unfold prq; omega)
  funext v
  unfold tL
  rw [e2]
  cases hv : decide (v < (M 109 2).toNatClampNeg) with
  | true =>
    rw [decide_eq_true_eq] at hv
    rw [hl 117 v (by unfold prq; omega)]
  | false => rw [Bool.false_and, Bool.false_and]
theorem zq_lo {M M' : zMM} {p v j : Nat} (hl : LOq M M') (hv : v < 11) (hp : p < 4) (hj : j < 4) (h1 : (M 116 v).toNatClampNeg ≤ 19) (h2 : (M 119 (4 * p + j)).toNatClampNeg ≤ 19) : zq M' (so_ M') p v j = zq M (so_ M) p v j := by
  have h16 : M' 116 v = M 116 v := hl 116 v (by unfold prq; omega)
  have h19 : M' 119 (4 * p + j) = M 119 (4 * p + j) := hl 119 _ (by unfold prq; omega)
  have h21 : M' 121 (20 * (M 116 v).toNatClampNeg + (M 119 (4 * p + j)).toNatClampNeg) = M 121 (20 * (M 116 v).toNatClampNeg + (M 119 (4 * p + j)).toNatClampNeg) := hl 121 _ (by unfold prq; omega)
  show sm_ M' (M' 116 v).toNatClampNeg (M' 119 (4 * p + j)).toNatClampNeg = sm_ M (M 116 v).toNatClampNeg (M 119 (4 * p + j)).toNatClampNeg
  rw [h16, h19]
  unfold sm_
  rw [h21]
theorem I_lok {k : Nat} {M M' : zMM} (hf : z_fr w_dr M M') (hl : LOq M M') (hI : z_I k M) : j_known M' := by
  have e0 : M' 109 0 = M 109 0 := hl 109 0 (by unfold prq; omega)
  have e1 : M' 109 1 = M 109 1 := hl 109 1 (by unfold prq; omega)
  have e2 : M' 109 2 = M 109 2 := hl 109 2 (by unfold prq; omega)
  have e3 : M' 109 3 = M 109 3 := hl 109 3 (by unfold prq; omega)
  have e4 : M' 109 4 = M 109 4 := hl 109 4 (by unfold prq; omega)
  have a51 : ∀ b, M' 51 b = M 51 b := fun b => hf 51 b rfl
  have a52 : ∀ b, M' 52 b = M 52 b := fun b => hf 52 b rfl
  have a81 : ∀ b, M' 81 b = M 81 b := fun b => hf 81 b rfl
  have a84 : ∀ b, M' 84 b = M 84 b := fun b => hf 84 b rfl
  have a87 : ∀ b, M' 87 b = M 87 b := fun b => hf 87 b rfl
  have a88 : ∀ b, M' 88 b = M 88 b := fun b => hf 88 b rfl
  have a89 : ∀ b, M' 89 b = M 89 b := fun b => hf 89 b rfl
  have a90 : ∀ b, M' 90 b = M 90 b := fun b => hf 90 b rfl
  have a91 : ∀ b, M' 91 b = M 91 b := fun b => hf 91 b rfl
  have a92 : ∀ b, M' 92 b = M 92 b := fun b => hf 92 b rfl
  have a94 : ∀ b, M' 94 b = M 94 b := fun b => hf 94 b rfl
  have a95 : ∀ b, M' 95 b = M 95 b := fun b => hf 95 b rfl
  have a96 : ∀ b, M' 96 b = M 96 b := fun b => hf 96 b rfl
  have a97 : ∀ b, M' 97 b = M 97 b := fun b => hf 97 b rfl
  have a98 : ∀ b, M' 98 b = M 98 b := fun b => hf 98 b rfl
  have a99 : ∀ b, M' 99 b = M 99 b := fun b => hf 99 b rfl
  have a100 : ∀ b, M' 100 b = M 100 b := fun b => hf 100 b rfl
  have a101 : ∀ b, M' 101 b = M 101 b := fun b => hf 101 b rfl
  have a102 : ∀ b, M' 102 b = M 102 b := fun b => hf 102 b rfl
  have a103 : ∀ b, M' 103 b = M 103 b := fun b => hf 103 b rfl
  have a106 : ∀ b, M' 106 b = M 106 b := fun b => hf 106 b rfl
  have a107 : ∀ b, M' 107 b = M 107 b := fun b => hf 107 b rfl
  have a124 : ∀ b, M' 124 b = M 124 b := fun b => hf 124 b rfl
  have a125 : ∀ b, M' 125 b = M 125 b := fun b => hf 125 b rfl
  have a126 : ∀ b, M' 126 b = M 126 b := fun b => hf 126 b rfl
  have a127 : ∀ b, M' 127 b = M 127 b := fun b => hf 127 b rfl
  have a130 : ∀ b, M' 130 b = M 130 b := fun b => hf 130 b rfl
  have a131 : ∀ b, M' 131 b = M 131 b := fun b => hf 131 b rfl
  have a132 : ∀ b, M' 132 b = M 132 b := fun b => hf 132 b rfl
  have a133 : ∀ b, M' 133 b = M 133 b := fun b => hf 133 b rfl
  have a134 : ∀ b, M' 134 b = M 134 b := fun b => hf 134 b rfl
  have a135 : ∀ b, M' 135 b = M 135 b := fun b => hf 135 b rfl
  have a136 : ∀ b, M' 136 b = M 136 b := fun b => hf 136 b rfl
  have a137 : ∀ b, M' 137 b = M 137 b := fun b => hf 137 b rfl
  have a138 : ∀ b, M' 138 b = M 138 b := fun b => hf 138 b rfl
  have a142 : ∀ b, M' 142 b = M 142 b := fun b => hf 142 b rfl
  have a143 : ∀ b, M' 143 b = M 143 b := fun b => hf 143 b rfl
  have a144 : ∀ b, M' 144 b = M 144 b := fun b => hf 144 b rfl
  have a145 : ∀ b, M' 145 b = M 145 b := fun b => hf 145 b rfl
  have a146 : ∀ b, M' 146 b = M 146 b := fun b => hf 146 b rfl
  have a147 : ∀ b, M' 147 b = M 147 b := fun b => hf 147 b rfl
  have a148 : ∀ b, M' 148 b = M 148 b := fun b => hf 148 b rfl
  obtain ⟨-, -, -, -, -, bT, bK, bG, bP, bR⟩ := hI.j_cnt
  obtain ⟨w, -, wE, wC, wB⟩ := bT.nI
  obtain ⟨kk, -, kE, kC, kB⟩ := bK.nI
  obtain ⟨g, -, gE, gC, gB⟩ := bG.nI
  obtain ⟨p, -, pE, pC, pB⟩ := bP.nI
  have tw5 : tw M ≤ 5 := by unfold tw; omega
  have tg10 : tg M ≤ 10 := by unfold tg; omega
  have tp4 : tp M ≤ 4 := by unfold tp; omega
  have twE : tw M' = tw M := by unfold tw; rw [e0]
  have tkE : tk M' = tk M := by unfold tk; rw [e1]
  have tgE : tg M' = tg M := by unfold tg; rw [e2]
  have tpE : tp M' = tp M := by unfold tp; rw [e3]
  intro p' hp t ht s hs
  rw [tpE] at hp
  rw [twE] at ht
  rw [a84]
  rcases hI.j_known p' hp t ht s hs with h | h
  · exact Or.inl h
  · right
    obtain ⟨x1, x2, x3, x4, x5⟩ := hI.j_play p' hp
    have eL : tL M' s = tL M s := tL_lo hl tg10
    have eq1 : ∀ v j, tL M s v = true → j < (M 120 p').toNatClampNeg → zq M' (so_ M') p' v j = zq M (so_ M) p' v j := by
      intro v j hv hj
      have hvg : v < (M 109 2).toNatClampNeg := tL_lt hv
      have hj4 : j < 4 := by
        obtain ⟨m, -, m2, m3, m4⟩ := z_bd.nI (hi := 4) ⟨Int.le_trans (by decide) x4.1, x4.2⟩
        omega
      obtain ⟨y1, y2, -⟩ := hI.j_thing v hvg
      obtain ⟨sv, -, s2, s3, s4⟩ := y2.nI
      obtain ⟨z1, z2⟩ := x5 j hj
      obtain ⟨nv, -, n2, n3, n4⟩ := z2.nI
      exact zq_lo hl (Nat.lt_succ_of_le (Nat.le_of_lt (Nat.lt_of_lt_of_le hvg tg10))) (Nat.lt_of_lt_of_le hp tp4) hj4 (by omega) (by omega)
    have e12 : M' 112 t = M 112 t := hl 112 t (by unfold prq; omega)
    have e13 : M' 113 t = M 113 t := hl 113 t (by unfold prq; omega)
    have e20 : M' 120 p' = M 120 p' := hl 120 p' (by unfold prq; omega)
    have eP : ∀ v, zP M' (so_ M') p' t (tL M' s) v ↔ zP M (so_ M) p' t (tL M s) v := by
      intro v
      unfold zP
      rw [eL, e12, e13, e20]
      constructor
      · exact zR_cg (fun u _ => rfl) (fun u j _ hL _ hj => eq1 u j hL (by omega))
      · exact zR_cg (fun u _ => rfl) (fun u j _ hL _ hj => (eq1 u j hL (by omega)).symm)
    rcases h with ⟨h1, h2⟩ | ⟨v, h1, h2, h3, h4⟩
    · exact Or.inl ⟨h1, fun v z => h2 v ((eP v).mp z)⟩
    · exact Or.inr ⟨v, h1, h2, (eP v).mpr h3, fun z hz => h4 z ((eP z).mp hz)⟩
theorem I_lo {k : Nat} {M M' : zMM} (hf : z_fr w_dr M M') (hl : LOq M M') (hI : z_I k M) : z_I k M' := by
  have e0 : M' 109 0 = M 109 0 := hl 109 0 (by unfold prq; omega)
  have e1 : M' 109 1 = M 109 1 := hl 109 1 (by unfold prq; omega)
  have e2 : M' 109 2 = M 109 2 := hl 109 2 (by unfold prq; omega)
  have e3 : M' 109 3 = M 109 3 := hl 109 3 (by unfold prq; omega)
  have e4 : M' 109 4 = M 109 4 := hl 109 4 (by unfold prq; omega)
  have a51 : ∀ b, M' 51 b = M 51 b := fun b => hf 51 b rfl
  have a52 : ∀ b, M' 52 b = M 52 b := fun b => hf 52 b rfl
  have a81 : ∀ b, M' 81 b = M 81 b := fun b => hf 81 b rfl
  have a84 : ∀ b, M' 84 b = M 84 b := fun b => hf 84 b rfl
  have a87 : ∀ b, M' 87 b = M 87 b := fun b => hf 87 b rfl
  have a88 : ∀ b, M' 88 b = M 88 b := fun b => hf 88 b rfl
  have a89 : ∀ b, M' 89 b = M 89 b := fun b => hf 89 b rfl
  have a90 : ∀ b, M' 90 b = M 90 b := fun b => hf 90 b rfl
  have a91 : ∀ b, M' 91 b = M 91 b := fun b => hf 91 b rfl
  have a92 : ∀ b, M' 92 b = M 92 b := fun b => hf 92 b rfl
  have a94 : ∀ b, M' 94 b = M 94 b := fun b => hf 94 b rfl
  have a95 : ∀ b, M' 95 b = M 95 b := fun b => hf 95 b rfl
  have a96 : ∀ b, M' 96 b = M 96 b := fun b => hf 96 b rfl
  have a97 : ∀ b, M' 97 b = M 97 b := fun b => hf 97 b rfl
  have a98 : ∀ b, M' 98 b = M 98 b := fun b => hf 98 b rfl
  have a99 : ∀ b, M' 99 b = M 99 b := fun b => hf 99 b rfl
  have a100 : ∀ b, M' 100 b = M 100 b := fun b => hf 100 b rfl
  have a101 : ∀ b, M' 101 b = M 101 b := fun b => hf 101 b rfl
  have a102 : ∀ b, M' 102 b = M 102 b := fun b => hf 102 b rfl
  have a103 : ∀ b, M' 103 b = M 103 b := fun b => hf 103 b rfl
  have a106 : ∀ b, M' 106 b = M 106 b := fun b => hf 106 b rfl
  have a107 : ∀ b, M' 107 b = M 107 b := fun b => hf 107 b rfl
  have a124 : ∀ b, M' 124 b = M 124 b := fun b => hf 124 b rfl
  have a125 : ∀ b, M' 125 b = M 125 b := fun b => hf 125 b rfl
  have a126 : ∀ b, M' 126 b = M 126 b := fun b => hf 126 b rfl
  have a127 : ∀ b, M' 127 b = M 127 b := fun b => hf 127 b rfl
  have a130 : ∀ b, M' 130 b = M 130 b := fun b => hf 130 b rfl
  have a131 : ∀ b, M' 131 b = M 131 b := fun b => hf 131 b rfl
  have a132 : ∀ b, M' 132 b = M 132 b := fun b => hf 132 b rfl
  have a133 : ∀ b, M' 133 b = M 133 b := fun b => hf 133 b rfl
  have a134 : ∀ b, M' 134 b = M 134 b := fun b => hf 134 b rfl
  have a135 : ∀ b, M' 135 b = M 135 b := fun b => hf 135 b rfl
  have a136 : ∀ b, M' 136 b = M 136 b := fun b => hf 136 b rfl
  have a137 : ∀ b, M' 137 b = M 137 b := fun b => hf 137 b rfl
  have a138 : ∀ b, M' 138 b = M 138 b := fun b => hf 138 b rfl
  have a142 : ∀ b, M' 142 b = M 142 b := fun b => hf 142 b rfl
  have a143 : ∀ b, M' 143 b = M 143 b := fun b => hf 143 b rfl
  have a144 : ∀ b, M' 144 b = M 144 b := fun b => hf 144 b rfl
  have a145 : ∀ b, M' 145 b = M 145 b := fun b => hf 145 b rfl
  have a146 : ∀ b, M' 146 b = M 146 b := fun b => hf 146 b rfl
  have a147 : ∀ b, M' 147 b = M 147 b := fun b => hf 147 b rfl
  have a148 : ∀ b, M' 148 b = M 148 b := fun b => hf 148 b rfl
  obtain ⟨-, -, -, -, -, bT, bK, bG, bP, bR⟩ := hI.j_cnt
  obtain ⟨w, -, wE, wC, wB⟩ := bT.nI
  obtain ⟨kk, -, kE, kC, kB⟩ := bK.nI
  obtain ⟨g, -, gE, gC, gB⟩ := bG.nI
  obtain ⟨p, -, pE, pC, pB⟩ := bP.nI
  have tw5 : tw M ≤ 5 := by unfold tw; omega
  have tg10 : tg M ≤ 10 := by unfold tg; omega
  have tp4 : tp M ≤ 4 := by unfold tp; omega
  have twE : tw M' = tw M := by unfold tw; rw [e0]
  have tkE : tk M' = tk M := by unfold tk; rw [e1]
  have tgE : tg M' = tg M := by unfold tg; rw [e2]
  have tpE : tp M' = tp M := by unfold tp; rw [e3]
  refine ⟨hI.j_tape.fr (by decide) hf, hI.j_fault.fr (by decide) hf, ?_, ?_, ?_, ?_, ?_, ?_, hI.j_day.fr (by decide) hf, hI.j_seed.fr (by decide) hf, ?_, ?_, hI.j_stat.fr (by decide) hf, ?_, hI.j_st1.fr (by decide) hf, hI.j_st2.fr (by decide) hf, ?_, ?_, ?_, ?_⟩
  · obtain ⟨q0, q1, q2, q3, q4, b0, b1, b2, b3, b4⟩ := hI.j_cnt
    unfold j_cnt
    rw [e0, e1, e2, e3, e4, hf 53 0 rfl, hf 53 6 rfl, hf 53 8 rfl, hf 53 11 rfl, hf 53 16 rfl]
    exact ⟨q0, q1, q2, q3, q4, b0, b1, b2, b3, b4⟩
  · intro i hi
    rw [twE] at hi
    rw [hf 54 i rfl, hf 55 i rfl, hf 56 i rfl, hf 57 i rfl, hl 110 i (by unfold prq; omega), hl 111 i (by unfold prq; omega), hl 112 i (by unfold prq; omega), hl 113 i (by unfold prq; omega)]
    exact hI.j_town i hi
  · intro i hi
    rw [twE, hf 58 i rfl, hl 114 i (by unfold prq; omega)]
    exact hI.j_train i hi
  · intro i hi
    rw [tgE] at hi
    rw [tkE, hf 60 i rfl, hf 61 i rfl, hl 116 i (by unfold prq; omega), hl 117 i (by unfold prq; omega)]
    exact hI.j_thing i hi
  · intro i hi
    rw [tpE] at hi
    obtain ⟨x1, x2, x3, x4, x5⟩ := hI.j_play i hi
    rw [hf 62 i rfl, hf 63 i rfl, hl 118 i (by unfold prq; omega), hl 120 i (by unfold prq; omega)]
    refine ⟨x1, x2, x3, x4, fun j hj => ?_⟩
    have hj4 : j < 4 := by
      obtain ⟨m, -, m2, m3, m4⟩ := z_bd.nI (hi := 4) ⟨Int.le_trans (by decide) x4.1, x4.2⟩
      omega
    rw [hf 64 _ rfl, hl 119 _ (by unfold prq; omega)]
    exact x5 j hj
  · intro h0 a ha b hb
    rw [tpE] at h0
    rw [hf 65 _ rfl, hl 121 _ (by unfold prq; omega)]
    exact hI.j_like h0 a ha b hb
  · have q := hI.j_place
    unfold j_place at q ⊢
    simp only [twE, tkE, a88, a89, a124, a125] at q ⊢
    exact q
  · have q := hI.j_night
    unfold j_night at q ⊢
    simp only [ni, twE, tpE, a87, a107, a90, a91, a92, a136, a137, a138] at q ⊢
    exact q
  · have q := hI.j_plan
    unfold j_plan at q ⊢
    simp only [tkE, a103, a107, a106, a142] at q ⊢
    exact q
  · have q := hI.j_img
    unfold j_img at q ⊢
    simp only [twE, tkE, tpE, a51, a107, a94, a95, a96, a97, a98, a99, a100, a143, a144, a145, a146, a147, a148] at q ⊢
    exact q
  · have q := hI.j_past
    unfold j_past at q ⊢
    simp only [un, rw_, pv_, pc_, twE, tkE, a88, a89, a101, a102, a107, a130, a131, a132, a133, a134, a135] at q ⊢
    exact q
  · intro h0
    rw [twE] at h0
    obtain ⟨q1, q2, q3, q4⟩ := hI.j_ways h0
    have ew : ∀ a b, wd M' a b = wd M a b := fun a b => by unfold wd; rw [a126]
    have et : ∀ a b, a < 5 → b < 5 → tr M' a b = tr M a b := fun a b ha hb => by unfold tr; rw [hl 114 _ (by unfold prq; omega)]
    refine ⟨fun a ha b hb => ?_, fun a ha => ?_, fun a ha b hb c hc => ?_, fun a ha b hb hab hlt => ?_⟩
    · rw [ew, a126, a81]; exact q1 a ha b hb
    · rw [ew]; exact q2 a ha
    · rw [ew, ew, ew]; exact q3 a ha b hb c hc
    · rw [ew] at hlt
      obtain ⟨x, x1, x2, x3, x4, x5⟩ := q4 a ha b hb hab hlt
      refine ⟨x, x1, by rw [a127]; exact x2, by rw [et a x ha x1]; exact x3, by rw [et a x ha x1, ew, ew]; exact x4, fun y hy => ?_⟩
      rw [et a y ha (by omega), ew, ew]
      exact x5 y hy
  · exact I_lok hf hl hI
