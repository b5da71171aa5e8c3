/-! ===== one thing more that can be undone ===== -/
theorem nt_o {M : zMM} {u : Nat} {x p q : Int32} {c b : Nat} (hc : 130 ≤ c ∧ c ≤ 135) (hb : b ≠ u) : nt M u x p q c b = M c b := by
  have : c = 130 ∨ c = 131 ∨ c = 132 ∨ c = 133 ∨ c = 134 ∨ c = 135 := by omega
  rcases this with rfl | rfl | rfl | rfl | rfl | rfl
  all_goals exact if_neg hb
theorem nt_s {M : zMM} {u : Nat} {x p q : Int32} : nt M u x p q 130 u = x ∧ nt M u x p q 131 u = p ∧ nt M u x p q 132 u = q ∧ nt M u x p q 133 u = M 107 29 ∧ nt M u x p q 134 u = M 107 30 ∧ nt M u x p q 135 u = M 107 33 := ⟨if_pos rfl, if_pos rfl, if_pos rfl, if_pos rfl, if_pos rfl, if_pos rfl⟩
theorem e_note {M : zMM} {u : Nat} {x : Int32} (hu : M 107 31 = nI u) (hu1 : u ≤ 100) (hz : z_zb (M 107 33) = true) (hb : u = 100 → ∀ i, i < 100 → z_zb (M 135 i) = true) (hx : x = -1 ∨ ∃ t, t < 5 ∧ x = nI t) :
    ∃ (M' : zMM) (e : Nat), f_X8_note_107 x M = some M' ∧ e = min u 99 ∧ M' 107 31 = nI (e + 1) ∧ M' 130 e = x ∧ M' 131 e = (if x = -1 then 0 else M 124 x.toNatClampNeg) ∧ M' 132 e = (if x = -1 then 0 else M 125 x.toNatClampNeg) ∧ M' 133 e = M 107 29 ∧ M' 134 e = M 107 30 ∧ M' 135 e = M 107 33 ∧ ∀ c, 130 ≤ c ∧ c ≤ 135 → ∀ i, i < e → M' c (e - 1 - i) = M c (u - 1 - i) := by
  by_cases h : u = 100
  · subst h
    have h31 : z_up (shf M 0) 107 31 (M 107 31 - 1) 107 31 = nI 99 := by
      show M 107 31 - 1 = nI 99
      rw [hu]
      exact nI_pred 99
    have e1 : f_X8_note_107 x M = some (nt (z_up (shf M 0) 107 31 (M 107 31 - 1)) 99 x (if x = -1 then 0 else M 124 x.toNatClampNeg) (if x = -1 then 0 else M 125 x.toNatClampNeg)) := by
      unfold f_X8_note_107
      rw [if_pos (show M 107 31 = (100 : Int32) from hu)]
      refine (e_p11 (x := x) 99 0 rfl z_fuel M (by decide) (hb rfl)).trans ?_
      exact e_p119 h31 (by decide) hz hx
    refine ⟨_, 99, e1, rfl, rfl, nt_s.1, nt_s.2.1, nt_s.2.2.1, nt_s.2.2.2.1, nt_s.2.2.2.2.1, nt_s.2.2.2.2.2, fun c hc i hi => ?_⟩
    rw [nt_o hc (by omega), z_up_o (by omega)]
    unfold shf
    rw [if_pos hc, if_pos (by omega), show 99 - 1 - i + 1 = 100 - 1 - i by omega]
  · have e1 : f_X8_note_107 x M = some (nt M u x (if x = -1 then 0 else M 124 x.toNatClampNeg) (if x = -1 then 0 else M 125 x.toNatClampNeg)) := by
      unfold f_X8_note_107
      rw [if_neg (show ¬ M 107 31 = (100 : Int32) by
        rw [hu]
        intro q
        exact h ((nI_eq (by omega) (by decide)).mp (q.trans (show (100 : Int32) = nI 100 from rfl))))]
      exact e_p119 hu (by omega) hz hx
    refine ⟨_, u, e1, by omega, rfl, nt_s.1, nt_s.2.1, nt_s.2.2.1, nt_s.2.2.2.1, nt_s.2.2.2.2.1, nt_s.2.2.2.2.2, fun c hc i hi => ?_⟩
    exact nt_o hc (by omega)
theorem j_past.push {k : Nat} {M M2 : zMM} {w u r e : Nat} {x : Int32} (hP : j_past k M) (hD : j_day k M) (hS : j_seed M) (hL : j_place k M) (hC : j_cnt M)
    (hw : M 101 1 = nI w) (hw1 : w < 100) (hu : M 107 31 = nI u) (hu1 : u ≤ 100) (hr : r = (w + 1) % 100) (he : e = min u 99)
    (a1 : M2 101 1 = nI r) (a2 : M2 101 2 = nI (min (u + 1) 100)) (a3 : M2 107 31 = nI (e + 1))
    (b0 : M2 102 (13 * r) = M 87 2) (b1 : M2 102 (13 * r + 1) = (if M 87 3 = 0 then (0 : Int32) else 1)) (b2 : M2 102 (13 * r + 2) = M 87 4) (b3 : ∀ t, t < 5 → M2 102 (13 * r + (3 + 2 * t)) = M 88 t ∧ M2 102 (13 * r + (4 + 2 * t)) = M 89 t) (b4 : ∀ b, b < 13 * r ∨ 13 * r + 13 ≤ b → M2 102 b = M 102 b)
    (c0 : M2 130 e = x) (c1 : M2 131 e = (if x = -1 then 0 else M 124 x.toNatClampNeg)) (c2 : M2 132 e = (if x = -1 then 0 else M 125 x.toNatClampNeg)) (c3 : M2 133 e = M 107 29) (c4 : M2 134 e = M 107 30) (c5 : M2 135 e = M 107 33) (c6 : ∀ c, 130 ≤ c ∧ c ≤ 135 → ∀ i, i < e → M2 c (e - 1 - i) = M c (u - 1 - i))
    (d : ∀ b, M2 109 b = M 109 b) (hx : (x = -1 ∧ ∀ t, t < 5 → M2 88 t = M 88 t ∧ M2 89 t = M 89 t) ∨ ∃ t0, t0 < tk M ∧ x = nI t0 ∧ ∀ t, t < 5 → t ≠ t0 → M2 88 t = M 88 t ∧ M2 89 t = M 89 t) : j_past k M2 := by
  obtain ⟨p1, p2, p3, p4⟩ := hP
  have hk5 := tk_le hC
  have eun : un M = u := by unfold un; rw [hu]; exact nI_clamp (by omega)
  have eun2 : un M2 = e + 1 := by unfold un; rw [a3]; exact nI_clamp (by omega)
  have etk : tk M2 = tk M := by unfold tk; rw [d]
  have etw : tw M2 = tw M := by unfold tw; rw [d]
  have hrow : ∀ i c, rw_ M i c = M 102 (13 * ((w + 100 - i) % 100) + c) := fun i c => by unfold rw_; rw [hw, nI_clamp (by omega)]
  have hrow2 : ∀ i c, rw_ M2 i c = M2 102 (13 * ((r + 100 - i) % 100) + c) := fun i c => by unfold rw_; rw [a1, nI_clamp (by omega)]
  have hr0 : ∀ c, rw_ M2 0 c = M2 102 (13 * r + c) := fun c => by
    rw [hrow2, show (r + 100 - 0) % 100 = r by omega]
  have hri : ∀ i c, i < 99 → c < 13 → rw_ M2 (i + 1) c = rw_ M i c := fun i c hi hc => by
    rw [hrow2, hrow, show (r + 100 - (i + 1)) % 100 = (w + 100 - i) % 100 by omega]
    have hne : (w + 100 - i) % 100 ≠ r := by omega
    generalize (w + 100 - i) % 100 = y at hne
    refine b4 _ ?_
    by_cases hy : y < r
    · exact Or.inl (by omega)
    · exact Or.inr (by omega)
  have hpv : ∀ i t, i < 99 → t < 5 → pv_ M2 (i + 1) t = pv_ M i t ∧ pc_ M2 (i + 1) t = pc_ M i t := fun i t hi ht => by
    cases i with
    | zero =>
      show rw_ M2 0 (3 + 2 * t) = M 88 t ∧ rw_ M2 0 (4 + 2 * t) = M 89 t
      rw [hr0, hr0]; exact b3 t ht
    | succ i =>
      show rw_ M2 (i + 1) (3 + 2 * t) = rw_ M i (3 + 2 * t) ∧ rw_ M2 (i + 1) (4 + 2 * t) = rw_ M i (4 + 2 * t)
      exact ⟨hri i _ (by omega) (by omega), hri i _ (by omega) (by omega)⟩
  refine ⟨by rw [a2, a3, show min (u + 1) 100 = e + 1 by omega], ⟨by rw [a3, nI_toInt (by omega)]; omega, by rw [a3, nI_toInt (by omega)]; omega⟩, ⟨by rw [a1, nI_toInt (by omega)]; omega, by rw [a1, nI_toInt (by omega)]; omega⟩, fun i hi => ?_⟩
  rw [eun2] at hi ⊢
  cases i with
  | zero =>
    rw [show e + 1 - 1 - 0 = e by omega, etk, etw, c0, c1, c2, c3, c4, c5]
    obtain ⟨s1, s2, s3⟩ := hS
    refine ⟨by rw [hr0, Nat.add_zero, b0]; exact hD.1, hD.2, ?_, s2, fun h => ?_, fun t ht => ?_, fun t ht ht5 => ?_, ?_⟩
    · rw [hr0, b1, s1]
      simp only [z_zb, Bool.or_eq_true, decide_eq_true_eq] at s2
      rcases s2 with q | q <;> rw [q] <;> rfl
    · rw [hr0, b2]; exact s3 h
    · have h5 : t < 5 := by omega
      rw [hr0, hr0, (b3 t h5).1, (b3 t h5).2]
      obtain ⟨l1, l2, l3, l4, l5⟩ := hL.1 t ht
      rw [l1, l4]
      exact ⟨l2, l3, l5⟩
    · rw [hr0, (b3 t ht5).1]
      exact hL.2 t ht ht5
    · rcases hx with ⟨rfl, hx⟩ | ⟨t0, ht0, rfl, hx⟩
      · refine Or.inl ⟨rfl, fun t ht => ?_⟩
        rw [hr0, hr0, (b3 t ht).1, (b3 t ht).2]
        exact ⟨(hx t ht).1.symm, (hx t ht).2.symm⟩
      · have hne : ¬ nI t0 = -1 := by
          intro q
          have := congrArg Int32.toInt q
          rw [nI_toInt (by omega)] at this
          have h : (-1 : Int32).toInt = -1 := rfl
          omega
        obtain ⟨l1, l2, l3, l4, l5⟩ := hL.1 t0 ht0
        refine Or.inr ⟨t0, ht0, rfl, ?_, ?_, fun t ht htn => ?_⟩
        · rw [hr0, (b3 t0 (by omega)).1, if_neg hne, nI_clamp (by omega), l1]
        · rw [hr0, (b3 t0 (by omega)).2, if_neg hne, nI_clamp (by omega), l4]
        · rw [hr0, hr0, (b3 t ht).1, (b3 t ht).2]
          exact ⟨(hx t ht htn).1.symm, (hx t ht htn).2.symm⟩
  | succ i =>
    have old := p4 i (by rw [eun]; omega)
    rw [eun] at old
    rw [show e + 1 - 1 - (i + 1) = e - 1 - i by omega, etk, etw, c6 130 (by decide) i (by omega), c6 131 (by decide) i (by omega), c6 132 (by decide) i (by omega), c6 133 (by decide) i (by omega), c6 134 (by decide) i (by omega), c6 135 (by decide) i (by omega)]
    obtain ⟨q1, q2, q3, q4, q5, q6, q7, q8⟩ := old
    have hi9 : i < 99 := by omega
    refine ⟨by rw [hri i 0 hi9 (by decide)]; exact q1, q2, by rw [hri i 1 hi9 (by decide)]; exact q3, q4, fun h => by rw [hri i 2 hi9 (by decide)]; exact q5 h, fun t ht => ?_, fun t ht ht5 => ?_, ?_⟩
    · rw [hri i _ hi9 (by omega), hri i _ hi9 (by omega)]; exact q6 t ht
    · rw [hri i _ hi9 (by omega)]; exact q7 t ht ht5
    · rcases q8 with ⟨y1, y2⟩ | ⟨t0, y1, y2, y3, y4, y5⟩
      · refine Or.inl ⟨y1, fun t ht => ?_⟩
        rw [hri i _ hi9 (by omega), hri i _ hi9 (by omega), (hpv i t hi9 ht).1, (hpv i t hi9 ht).2]
        exact y2 t ht
      · refine Or.inr ⟨t0, y1, y2, by rw [hri i _ hi9 (by omega)]; exact y3, by rw [hri i _ hi9 (by omega)]; exact y4, fun t ht htn => ?_⟩
        rw [hri i _ hi9 (by omega), hri i _ hi9 (by omega), (hpv i t hi9 ht).1, (hpv i t hi9 ht).2]
        exact y5 t ht htn
