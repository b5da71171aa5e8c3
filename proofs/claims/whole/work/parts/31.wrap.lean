/-! ===== cases with a wrapper ===== -/
def z_ag (o : Int32 ⊕ Nat) (b c : Int32) (c0 c1 : Option Int32) : Prop := match o with
  | .inl v => c = 0 ∧ v = b
  | .inr e => ∃ q, (if e = 0 then c0 else c1) = some q ∧ c = q ∧ q ≠ 0
def z_agL (o : Int64 ⊕ Nat) (b : Int64) (c : Int32) (c0 c1 : Option Int32) : Prop := match o with
  | .inl v => c = 0 ∧ v = b
  | .inr e => ∃ q, (if e = 0 then c0 else c1) = some q ∧ c = q ∧ q ≠ 0
theorem z_cmp0 (x : Int64) : lg_cmp x x = 0 := by
  unfold lg_cmp
  simp
def z_tail (K : zKt) (i : Int32) (v : Int32) (Lm1 : zML) (b : Int64) (M2 : zMM) : Option (Int32 × zMM × zML) :=
  if M2 107 1 = v then
    if v = 0 then
      if (lg_cmp (Lm1 149 0) b) = 0 then K (i + (6 : Int32)) M2 Lm1 else some ((0 : Int32), M2, Lm1)
    else K (i + (6 : Int32)) M2 Lm1
  else some ((0 : Int32), M2, Lm1)
theorem z_wrapI {o : Int32 ⊕ Nat} {b : Int32} {M1 M2 : zMM} {Lm : zML} {c0 c1 : Option Int32} {K : zKt} {i : Int32} {g : Int32 → zMM → zML → Option (Int32 × zMM × zML)} (ha : z_ag o b (M2 107 1) c0 c1) (hg : ∀ v Lm1, g v M1 Lm1 = z_tail K i v Lm1 b.toInt64 M2) : ∃ Lm', z_bw (z_wI (some (o, M1)) Lm c0 c1) g = K (i + 6) M2 Lm' := by
  cases o with
  | inl v =>
    obtain ⟨h1, rfl⟩ := ha
    refine ⟨z_upL Lm 149 0 v.toInt64, ?_⟩
    show g 0 M1 (z_upL Lm 149 0 v.toInt64) = _
    rw [hg]
    unfold z_tail
    rw [if_pos h1, if_pos rfl, show z_upL Lm 149 0 v.toInt64 149 0 = v.toInt64 from rfl, z_cmp0, if_pos rfl]
  | inr e =>
    obtain ⟨q, h1, h2, h3⟩ := ha
    refine ⟨Lm, ?_⟩
    have e1 : z_wI (some (.inr e, M1)) Lm c0 c1 = some (q, M1, Lm) := by
      show (if e = 0 then c0.map (fun c => (c, M1, Lm)) else c1.map (fun c => (c, M1, Lm))) = _
      by_cases he : e = 0
      · rw [if_pos he] at h1 ⊢; rw [h1]; rfl
      · rw [if_neg he] at h1 ⊢; rw [h1]; rfl
    rw [e1]
    show g q M1 Lm = _
    rw [hg]
    unfold z_tail
    rw [if_pos h2, if_neg h3]
theorem z_wrapL {o : Int64 ⊕ Nat} {b : Int64} {M1 M2 : zMM} {Lm : zML} {c0 c1 : Option Int32} {K : zKt} {i : Int32} {g : Int32 → zMM → zML → Option (Int32 × zMM × zML)} (ha : z_agL o b (M2 107 1) c0 c1) (hg : ∀ v Lm1, g v M1 Lm1 = z_tail K i v Lm1 b M2) : ∃ Lm', z_bw (z_wL (some (o, M1)) Lm c0 c1) g = K (i + 6) M2 Lm' := by
  cases o with
  | inl v =>
    obtain ⟨h1, rfl⟩ := ha
    refine ⟨z_upL Lm 149 0 v, ?_⟩
    show g 0 M1 (z_upL Lm 149 0 v) = _
    rw [hg]
    unfold z_tail
    rw [if_pos h1, if_pos rfl, show z_upL Lm 149 0 v 149 0 = v from rfl, z_cmp0, if_pos rfl]
  | inr e =>
    obtain ⟨q, h1, h2, h3⟩ := ha
    refine ⟨Lm, ?_⟩
    have e1 : z_wL (some (.inr e, M1)) Lm c0 c1 = some (q, M1, Lm) := by
      show (if e = 0 then c0.map (fun c => (c, M1, Lm)) else c1.map (fun c => (c, M1, Lm))) = _
      by_cases he : e = 0
      · rw [if_pos he] at h1 ⊢; rw [h1]; rfl
      · rw [if_neg he] at h1 ⊢; rw [h1]; rfl
    rw [e1]
    show g q M1 Lm = _
    rw [hg]
    unfold z_tail
    rw [if_pos h2, if_neg h3]
def z_op_told : Prop := ∀ (k : Nat) (M : zMM) (a1 : Int32), k < 600 → z_I k M → ∃ (o : Int32 ⊕ Nat) (M1 : zMM) (b : Int32) (M2 : zMM), f_X7_told_51 a1 M = some (o, M1) ∧ f_X8_told_107 a1 M1 = some (b, M2) ∧ z_ag o b (M2 107 1) none (some 1) ∧ z_I (k + 1) M2
theorem B_c1 (H : z_op_told) : z_Cs f_L_c1 := by
  intro k K Ls j M Lm hk hL hj hI
  obtain ⟨o, M1, b, M2, h1, h2, h3, h4⟩ := H k M (M 0 (nI j + (1 : Int32)).toNatClampNeg) hk hI
  have f0 : ∀ q, M1 0 q = M 0 q := fun q => (R_X7_told_51 h1) 0 q rfl
  unfold f_L_c1
  rw [if_pos (z_s1 hL hj)]
  unfold f_L_told
  rw [h1]
  refine Exists.elim (z_wrapI (Lm := Lm) (K := K) (i := nI j) h3 (fun v Lm1 => ?_)) (fun Lm' e => ⟨M2, Lm', e, h4⟩)
  rw [if_pos (z_s1 hL hj)]
  simp only [f0]
  rw [h2]
  rfl
def z_op_count : Prop := ∀ (k : Nat) (M : zMM) (a1 : Int32), k < 600 → z_I k M → ∃ (o : Int32 ⊕ Nat) (M1 : zMM) (b : Int32) (M2 : zMM), f_X7_count_51 a1 M = some (o, M1) ∧ f_X8_count_107 a1 M1 = some (b, M2) ∧ z_ag o b (M2 107 1) (some 1) none ∧ z_I (k + 1) M2
theorem B_c3 (H : z_op_count) : z_Cs f_L_c3 := by
  intro k K Ls j M Lm hk hL hj hI
  obtain ⟨o, M1, b, M2, h1, h2, h3, h4⟩ := H k M (M 0 (nI j + (1 : Int32)).toNatClampNeg) hk hI
  have f0 : ∀ q, M1 0 q = M 0 q := fun q => (R_X7_count_51 h1) 0 q rfl
  unfold f_L_c3
  rw [if_pos (z_s1 hL hj)]
  unfold f_L_count
  rw [h1]
  refine Exists.elim (z_wrapI (Lm := Lm) (K := K) (i := nI j) h3 (fun v Lm1 => ?_)) (fun Lm' e => ⟨M2, Lm', e, h4⟩)
  rw [if_pos (z_s1 hL hj)]
  simp only [f0]
  rw [h2]
  rfl
def z_op_town : Prop := ∀ (k : Nat) (M : zMM) (a1 : Int32) (a2 : Int32), k < 600 → z_I k M → ∃ (o : Int32 ⊕ Nat) (M1 : zMM) (b : Int32) (M2 : zMM), f_X7_town_51 a1 a2 M = some (o, M1) ∧ f_X8_town_107 a1 a2 M1 = some (b, M2) ∧ z_ag o b (M2 107 1) (some 1) none ∧ z_I (k + 1) M2
theorem B_c4 (H : z_op_town) : z_Cs f_L_c4 := by
  intro k K Ls j M Lm hk hL hj hI
  obtain ⟨o, M1, b, M2, h1, h2, h3, h4⟩ := H k M (M 0 (nI j + (1 : Int32)).toNatClampNeg) (M 0 (nI j + (2 : Int32)).toNatClampNeg) hk hI
  have f0 : ∀ q, M1 0 q = M 0 q := fun q => (R_X7_town_51 h1) 0 q rfl
  unfold f_L_c4
  rw [if_pos (z_s1 hL hj), if_pos (z_s2 hL hj)]
  unfold f_L_town
  rw [h1]
  refine Exists.elim (z_wrapI (Lm := Lm) (K := K) (i := nI j) h3 (fun v Lm1 => ?_)) (fun Lm' e => ⟨M2, Lm', e, h4⟩)
  rw [if_pos (z_s1 hL hj), if_pos (z_s2 hL hj)]
  simp only [f0]
  rw [h2]
  rfl
def z_op_trunk : Prop := ∀ (k : Nat) (M : zMM) (a1 : Int32) (a2 : Int32), k < 600 → z_I k M → ∃ (o : Int32 ⊕ Nat) (M1 : zMM) (b : Int32) (M2 : zMM), f_X7_trunk_51 a1 a2 M = some (o, M1) ∧ f_X8_trunk_107 a1 a2 M1 = some (b, M2) ∧ z_ag o b (M2 107 1) (some 1) none ∧ z_I (k + 1) M2
theorem B_c5 (H : z_op_trunk) : z_Cs f_L_c5 := by
  intro k K Ls j M Lm hk hL hj hI
  obtain ⟨o, M1, b, M2, h1, h2, h3, h4⟩ := H k M (M 0 (nI j + (1 : Int32)).toNatClampNeg) (M 0 (nI j + (2 : Int32)).toNatClampNeg) hk hI
  have f0 : ∀ q, M1 0 q = M 0 q := fun q => (R_X7_trunk_51 h1) 0 q rfl
  unfold f_L_c5
  rw [if_pos (z_s1 hL hj), if_pos (z_s2 hL hj)]
  unfold f_L_trunk
  rw [h1]
  refine Exists.elim (z_wrapI (Lm := Lm) (K := K) (i := nI j) h3 (fun v Lm1 => ?_)) (fun Lm' e => ⟨M2, Lm', e, h4⟩)
  rw [if_pos (z_s1 hL hj), if_pos (z_s2 hL hj)]
  simp only [f0]
  rw [h2]
  rfl
def z_op_way : Prop := ∀ (k : Nat) (M : zMM) (a1 : Int32) (a2 : Int32), k < 600 → z_I k M → ∃ (o : Int32 ⊕ Nat) (M1 : zMM) (b : Int32) (M2 : zMM), f_X7_way_51 a1 a2 M = some (o, M1) ∧ f_X8_way_107 a1 a2 M1 = some (b, M2) ∧ z_ag o b (M2 107 1) (some 1) none ∧ z_I (k + 1) M2
theorem B_c6 (H : z_op_way) : z_Cs f_L_c6 := by
  intro k K Ls j M Lm hk hL hj hI
  obtain ⟨o, M1, b, M2, h1, h2, h3, h4⟩ := H k M (M 0 (nI j + (1 : Int32)).toNatClampNeg) (M 0 (nI j + (2 : Int32)).toNatClampNeg) hk hI
  have f0 : ∀ q, M1 0 q = M 0 q := fun q => (R_X7_way_51 h1) 0 q rfl
  unfold f_L_c6
  rw [if_pos (z_s1 hL hj), if_pos (z_s2 hL hj)]
  unfold f_L_way
  rw [h1]
  refine Exists.elim (z_wrapI (Lm := Lm) (K := K) (i := nI j) h3 (fun v Lm1 => ?_)) (fun Lm' e => ⟨M2, Lm', e, h4⟩)
  rw [if_pos (z_s1 hL hj), if_pos (z_s2 hL hj)]
  simp only [f0]
  rw [h2]
  rfl
def z_op_price : Prop := ∀ (k : Nat) (M : zMM) (a1 : Int32) (a2 : Int32) (a3 : Int32), k < 600 → z_I k M → ∃ (o : Int32 ⊕ Nat) (M1 : zMM) (b : Int32) (M2 : zMM), f_X7_price_51 a1 a2 a3 M = some (o, M1) ∧ f_X8_price_107 a1 a2 a3 M1 = some (b, M2) ∧ z_ag o b (M2 107 1) (some 1) (some 2) ∧ z_I (k + 1) M2
theorem B_c7 (H : z_op_price) : z_Cs f_L_c7 := by
  intro k K Ls j M Lm hk hL hj hI
  obtain ⟨o, M1, b, M2, h1, h2, h3, h4⟩ := H k M (M 0 (nI j + (1 : Int32)).toNatClampNeg) (M 0 (nI j + (2 : Int32)).toNatClampNeg) (M 0 (nI j + (3 : Int32)).toNatClampNeg) hk hI
  have f0 : ∀ q, M1 0 q = M 0 q := fun q => (R_X7_price_51 h1) 0 q rfl
  unfold f_L_c7
  rw [if_pos (z_s1 hL hj), if_pos (z_s2 hL hj), if_pos (z_s3 hL hj)]
  unfold f_L_price
  rw [h1]
  refine Exists.elim (z_wrapI (Lm := Lm) (K := K) (i := nI j) h3 (fun v Lm1 => ?_)) (fun Lm' e => ⟨M2, Lm', e, h4⟩)
  rw [if_pos (z_s1 hL hj), if_pos (z_s2 hL hj), if_pos (z_s3 hL hj)]
  simp only [f0]
  rw [h2]
  rfl
def z_op_filled : Prop := ∀ (k : Nat) (M : zMM) (a1 : Int32) (a2 : Int32) (a3 : Int32), k < 600 → z_I k M → ∃ (o : Int32 ⊕ Nat) (M1 : zMM) (b : Int32) (M2 : zMM), f_X7_filled_51 a1 a2 a3 M = some (o, M1) ∧ f_X8_filled_107 a1 a2 a3 M1 = some (b, M2) ∧ z_ag o b (M2 107 1) (some 1) none ∧ z_I (k + 1) M2
theorem B_c8 (H : z_op_filled) : z_Cs f_L_c8 := by
  intro k K Ls j M Lm hk hL hj hI
  obtain ⟨o, M1, b, M2, h1, h2, h3, h4⟩ := H k M (M 0 (nI j + (1 : Int32)).toNatClampNeg) (M 0 (nI j + (2 : Int32)).toNatClampNeg) (M 0 (nI j + (3 : Int32)).toNatClampNeg) hk hI
  have f0 : ∀ q, M1 0 q = M 0 q := fun q => (R_X7_filled_51 h1) 0 q rfl
  unfold f_L_c8
  rw [if_pos (z_s1 hL hj), if_pos (z_s2 hL hj), if_pos (z_s3 hL hj)]
  unfold f_L_filled
  rw [h1]
  refine Exists.elim (z_wrapI (Lm := Lm) (K := K) (i := nI j) h3 (fun v Lm1 => ?_)) (fun Lm' e => ⟨M2, Lm', e, h4⟩)
  rw [if_pos (z_s1 hL hj), if_pos (z_s2 hL hj), if_pos (z_s3 hL hj)]
  simp only [f0]
  rw [h2]
  rfl
def z_op_tonight : Prop := ∀ (k : Nat) (M : zMM) (a1 : Int32) (a2 : Int32), k < 600 → z_I k M → ∃ (o : Int32 ⊕ Nat) (M1 : zMM) (b : Int32) (M2 : zMM), f_X7_tonight_51 a1 a2 M = some (o, M1) ∧ f_X8_tonight_107 a1 a2 M1 = some (b, M2) ∧ z_ag o b (M2 107 1) (some 1) none ∧ z_I (k + 1) M2
theorem B_c9 (H : z_op_tonight) : z_Cs f_L_c9 := by
  intro k K Ls j M Lm hk hL hj hI
  obtain ⟨o, M1, b, M2, h1, h2, h3, h4⟩ := H k M (M 0 (nI j + (1 : Int32)).toNatClampNeg) (M 0 (nI j + (2 : Int32)).toNatClampNeg) hk hI
  have f0 : ∀ q, M1 0 q = M 0 q := fun q => (R_X7_tonight_51 h1) 0 q rfl
  unfold f_L_c9
  rw [if_pos (z_s1 hL hj), if_pos (z_s2 hL hj)]
  unfold f_L_tonight
  rw [h1]
  refine Exists.elim (z_wrapI (Lm := Lm) (K := K) (i := nI j) h3 (fun v Lm1 => ?_)) (fun Lm' e => ⟨M2, Lm', e, h4⟩)
  rw [if_pos (z_s1 hL hj), if_pos (z_s2 hL hj)]
  simp only [f0]
  rw [h2]
  rfl
def z_op_both : Prop := ∀ (k : Nat) (M : zMM) (a1 : Int32) (a2 : Int32) (a3 : Int32), k < 600 → z_I k M → ∃ (o : Int32 ⊕ Nat) (M1 : zMM) (b : Int32) (M2 : zMM), f_X7_both_51 a1 a2 a3 M = some (o, M1) ∧ f_X8_both_107 a1 a2 a3 M1 = some (b, M2) ∧ z_ag o b (M2 107 1) (some 1) none ∧ z_I (k + 1) M2
theorem B_c10 (H : z_op_both) : z_Cs f_L_c10 := by
  intro k K Ls j M Lm hk hL hj hI
  obtain ⟨o, M1, b, M2, h1, h2, h3, h4⟩ := H k M (M 0 (nI j + (1 : Int32)).toNatClampNeg) (M 0 (nI j + (2 : Int32)).toNatClampNeg) (M 0 (nI j + (3 : Int32)).toNatClampNeg) hk hI
  have f0 : ∀ q, M1 0 q = M 0 q := fun q => (R_X7_both_51 h1) 0 q rfl
  unfold f_L_c10
  rw [if_pos (z_s1 hL hj), if_pos (z_s2 hL hj), if_pos (z_s3 hL hj)]
  unfold f_L_both
  rw [h1]
  refine Exists.elim (z_wrapI (Lm := Lm) (K := K) (i := nI j) h3 (fun v Lm1 => ?_)) (fun Lm' e => ⟨M2, Lm', e, h4⟩)
  rw [if_pos (z_s1 hL hj), if_pos (z_s2 hL hj), if_pos (z_s3 hL hj)]
  simp only [f0]
  rw [h2]
  rfl
def z_op_send : Prop := ∀ (k : Nat) (M : zMM) (a1 : Int32) (a2 : Int32), k < 600 → z_I k M → ∃ (o : Int32 ⊕ Nat) (M1 : zMM) (b : Int32) (M2 : zMM), f_X7_send_51 a1 a2 M = some (o, M1) ∧ f_X8_send_107 a1 a2 M1 = some (b, M2) ∧ z_ag o b (M2 107 1) (some 1) none ∧ z_I (k + 1) M2
theorem B_c11 (H : z_op_send) : z_Cs f_L_c11 := by
  intro k K Ls j M Lm hk hL hj hI
  obtain ⟨o, M1, b, M2, h1, h2, h3, h4⟩ := H k M (M 0 (nI j + (1 : Int32)).toNatClampNeg) (M 0 (nI j + (2 : Int32)).toNatClampNeg) hk hI
  have f0 : ∀ q, M1 0 q = M 0 q := fun q => (R_X7_send_51 h1) 0 q rfl
  unfold f_L_c11
  rw [if_pos (z_s1 hL hj), if_pos (z_s2 hL hj)]
  unfold f_L_send
  rw [h1]
  refine Exists.elim (z_wrapI (Lm := Lm) (K := K) (i := nI j) h3 (fun v Lm1 => ?_)) (fun Lm' e => ⟨M2, Lm', e, h4⟩)
  rw [if_pos (z_s1 hL hj), if_pos (z_s2 hL hj)]
  simp only [f0]
  rw [h2]
  rfl
def z_op_days : Prop := ∀ (k : Nat) (M : zMM) (a1 : Int32), k < 600 → z_I k M → ∃ (o : Int32 ⊕ Nat) (M1 : zMM) (b : Int32) (M2 : zMM), f_X7_days_51 a1 M = some (o, M1) ∧ f_X8_days_107 a1 M1 = some (b, M2) ∧ z_ag o b (M2 107 1) none (some 1) ∧ z_I (k + 1) M2
theorem B_c13 (H : z_op_days) : z_Cs f_L_c13 := by
  intro k K Ls j M Lm hk hL hj hI
  obtain ⟨o, M1, b, M2, h1, h2, h3, h4⟩ := H k M (M 0 (nI j + (1 : Int32)).toNatClampNeg) hk hI
  have f0 : ∀ q, M1 0 q = M 0 q := fun q => (R_X7_days_51 h1) 0 q rfl
  unfold f_L_c13
  rw [if_pos (z_s1 hL hj)]
  unfold f_L_days
  rw [h1]
  refine Exists.elim (z_wrapI (Lm := Lm) (K := K) (i := nI j) h3 (fun v Lm1 => ?_)) (fun Lm' e => ⟨M2, Lm', e, h4⟩)
  rw [if_pos (z_s1 hL hj)]
  simp only [f0]
  rw [h2]
  rfl
def z_op_clerk : Prop := ∀ (k : Nat) (M : zMM) (a1 : Int32) (a2 : Int32) (a3 : Int32), k < 600 → z_I k M → ∃ (o : Int32 ⊕ Nat) (M1 : zMM) (b : Int32) (M2 : zMM), f_X7_clerk_51 a1 a2 a3 M = some (o, M1) ∧ f_X8_clerk_107 a1 a2 a3 M1 = some (b, M2) ∧ z_ag o b (M2 107 1) (some 1) none ∧ z_I (k + 1) M2
theorem B_c15 (H : z_op_clerk) : z_Cs f_L_c15 := by
  intro k K Ls j M Lm hk hL hj hI
  obtain ⟨o, M1, b, M2, h1, h2, h3, h4⟩ := H k M (M 0 (nI j + (1 : Int32)).toNatClampNeg) (M 0 (nI j + (2 : Int32)).toNatClampNeg) (M 0 (nI j + (3 : Int32)).toNatClampNeg) hk hI
  have f0 : ∀ q, M1 0 q = M 0 q := fun q => (R_X7_clerk_51 h1) 0 q rfl
  unfold f_L_c15
  rw [if_pos (z_s1 hL hj), if_pos (z_s2 hL hj), if_pos (z_s3 hL hj)]
  unfold f_L_clerk
  rw [h1]
  refine Exists.elim (z_wrapI (Lm := Lm) (K := K) (i := nI j) h3 (fun v Lm1 => ?_)) (fun Lm' e => ⟨M2, Lm', e, h4⟩)
  rw [if_pos (z_s1 hL hj), if_pos (z_s2 hL hj), if_pos (z_s3 hL hj)]
  simp only [f0]
  rw [h2]
  rfl
def z_op_lost : Prop := ∀ (k : Nat) (M : zMM) (a1 : Int32) (a2 : Int32) (a3 : Int32) (a4 : Int32), k < 600 → z_I k M → ∃ (o : Int64 ⊕ Nat) (M1 : zMM) (b : Int64) (M2 : zMM), f_X7_lost_51 a1 a2 a3 a4 M = some (o, M1) ∧ f_X8_lost_107 a1 a2 a3 a4 M1 = some (b, M2) ∧ z_agL o b (M2 107 1) (some 1) none ∧ z_I (k + 1) M2
theorem B_c16 (H : z_op_lost) : z_Cs f_L_c16 := by
  intro k K Ls j M Lm hk hL hj hI
  obtain ⟨o, M1, b, M2, h1, h2, h3, h4⟩ := H k M (M 0 (nI j + (1 : Int32)).toNatClampNeg) (M 0 (nI j + (2 : Int32)).toNatClampNeg) (M 0 (nI j + (3 : Int32)).toNatClampNeg) (M 0 (nI j + (4 : Int32)).toNatClampNeg) hk hI
  have f0 : ∀ q, M1 0 q = M 0 q := fun q => (R_X7_lost_51 h1) 0 q rfl
  unfold f_L_c16
  rw [if_pos (z_s1 hL hj), if_pos (z_s2 hL hj), if_pos (z_s3 hL hj), if_pos (z_s4 hL hj)]
  unfold f_L_lost
  rw [h1]
  refine Exists.elim (z_wrapL (Lm := Lm) (K := K) (i := nI j) h3 (fun v Lm1 => ?_)) (fun Lm' e => ⟨M2, Lm', e, h4⟩)
  rw [if_pos (z_s1 hL hj), if_pos (z_s2 hL hj), if_pos (z_s3 hL hj), if_pos (z_s4 hL hj)]
  simp only [f0]
  rw [h2]
  rfl
def z_op_night : Prop := ∀ (k : Nat) (M : zMM) (a1 : Int32) (a2 : Int32) (a3 : Int32), k < 600 → z_I k M → ∃ (o : Int32 ⊕ Nat) (M1 : zMM) (b : Int32) (M2 : zMM), f_X7_night_51 a1 a2 a3 M = some (o, M1) ∧ f_X8_night_107 a1 a2 a3 M1 = some (b, M2) ∧ z_ag o b (M2 107 1) (some 1) none ∧ z_I (k + 1) M2
theorem B_c17 (H : z_op_night) : z_Cs f_L_c17 := by
  intro k K Ls j M Lm hk hL hj hI
  obtain ⟨o, M1, b, M2, h1, h2, h3, h4⟩ := H k M (M 0 (nI j + (1 : Int32)).toNatClampNeg) (M 0 (nI j + (2 : Int32)).toNatClampNeg) (M 0 (nI j + (3 : Int32)).toNatClampNeg) hk hI
  have f0 : ∀ q, M1 0 q = M 0 q := fun q => (R_X7_night_51 h1) 0 q rfl
  unfold f_L_c17
  rw [if_pos (z_s1 hL hj), if_pos (z_s2 hL hj), if_pos (z_s3 hL hj)]
  unfold f_L_night
  rw [h1]
  refine Exists.elim (z_wrapI (Lm := Lm) (K := K) (i := nI j) h3 (fun v Lm1 => ?_)) (fun Lm' e => ⟨M2, Lm', e, h4⟩)
  rw [if_pos (z_s1 hL hj), if_pos (z_s2 hL hj), if_pos (z_s3 hL hj)]
  simp only [f0]
  rw [h2]
  rfl
def z_op_rides : Prop := ∀ (k : Nat) (M : zMM) (a1 : Int32), k < 600 → z_I k M → ∃ (o : Int32 ⊕ Nat) (M1 : zMM) (b : Int32) (M2 : zMM), f_X7_rides_51 a1 M = some (o, M1) ∧ f_X8_rides_107 a1 M1 = some (b, M2) ∧ z_ag o b (M2 107 1) (some 1) none ∧ z_I (k + 1) M2
theorem B_c20 (H : z_op_rides) : z_Cs f_L_c20 := by
  intro k K Ls j M Lm hk hL hj hI
  obtain ⟨o, M1, b, M2, h1, h2, h3, h4⟩ := H k M (M 0 (nI j + (1 : Int32)).toNatClampNeg) hk hI
  have f0 : ∀ q, M1 0 q = M 0 q := fun q => (R_X7_rides_51 h1) 0 q rfl
  unfold f_L_c20
  rw [if_pos (z_s1 hL hj)]
  unfold f_L_rides
  rw [h1]
  refine Exists.elim (z_wrapI (Lm := Lm) (K := K) (i := nI j) h3 (fun v Lm1 => ?_)) (fun Lm' e => ⟨M2, Lm', e, h4⟩)
  rw [if_pos (z_s1 hL hj)]
  simp only [f0]
  rw [h2]
  rfl
def z_op_spared : Prop := ∀ (k : Nat) (M : zMM) (a1 : Int32), k < 600 → z_I k M → ∃ (o : Int32 ⊕ Nat) (M1 : zMM) (b : Int32) (M2 : zMM), f_X7_spared_51 a1 M = some (o, M1) ∧ f_X8_spared_107 a1 M1 = some (b, M2) ∧ z_ag o b (M2 107 1) (some 1) none ∧ z_I (k + 1) M2
theorem B_c21 (H : z_op_spared) : z_Cs f_L_c21 := by
  intro k K Ls j M Lm hk hL hj hI
  obtain ⟨o, M1, b, M2, h1, h2, h3, h4⟩ := H k M (M 0 (nI j + (1 : Int32)).toNatClampNeg) hk hI
  have f0 : ∀ q, M1 0 q = M 0 q := fun q => (R_X7_spared_51 h1) 0 q rfl
  unfold f_L_c21
  rw [if_pos (z_s1 hL hj)]
  unfold f_L_spared
  rw [h1]
  refine Exists.elim (z_wrapI (Lm := Lm) (K := K) (i := nI j) h3 (fun v Lm1 => ?_)) (fun Lm' e => ⟨M2, Lm', e, h4⟩)
  rw [if_pos (z_s1 hL hj)]
  simp only [f0]
  rw [h2]
  rfl
def z_op_unopened : Prop := ∀ (k : Nat) (M : zMM) (a1 : Int32) (a2 : Int32) (a3 : Int32) (a4 : Int32) (a5 : Int32), k < 600 → z_I k M → ∃ (o : Int32 ⊕ Nat) (M1 : zMM) (b : Int32) (M2 : zMM), f_X7_unopened_51 a1 a2 a3 a4 a5 M = some (o, M1) ∧ f_X8_unopened_107 a1 a2 a3 a4 a5 M1 = some (b, M2) ∧ z_ag o b (M2 107 1) (some 1) (some 2) ∧ z_I (k + 1) M2
theorem B_c22 (H : z_op_unopened) : z_Cs f_L_c22 := by
  intro k K Ls j M Lm hk hL hj hI
  obtain ⟨o, M1, b, M2, h1, h2, h3, h4⟩ := H k M (M 0 (nI j + (1 : Int32)).toNatClampNeg) (M 0 (nI j + (2 : Int32)).toNatClampNeg) (M 0 (nI j + (3 : Int32)).toNatClampNeg) (M 0 (nI j + (4 : Int32)).toNatClampNeg) (M 0 (nI j + (5 : Int32)).toNatClampNeg) hk hI
  have f0 : ∀ q, M1 0 q = M 0 q := fun q => (R_X7_unopened_51 h1) 0 q rfl
  unfold f_L_c22
  rw [if_pos (z_s1 hL hj), if_pos (z_s2 hL hj), if_pos (z_s3 hL hj), if_pos (z_s4 hL hj), if_pos (z_s5 hL hj)]
  unfold f_L_unopened
  rw [h1]
  refine Exists.elim (z_wrapI (Lm := Lm) (K := K) (i := nI j) h3 (fun v Lm1 => ?_)) (fun Lm' e => ⟨M2, Lm', e, h4⟩)
  rw [if_pos (z_s1 hL hj), if_pos (z_s2 hL hj), if_pos (z_s3 hL hj), if_pos (z_s4 hL hj), if_pos (z_s5 hL hj)]
  simp only [f0]
  rw [h2]
  rfl
